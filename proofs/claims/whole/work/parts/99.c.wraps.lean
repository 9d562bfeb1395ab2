/-! ===== 99.d.wraps: the law's wrappers, by wip/gen/wrap.py ===== -/
theorem kL165 : Cond.initialized RX11 ∈ bW := bW_mem 165 (by decide +kernel) (by decide +kernel)
theorem kL708 : Cond.classLink RL 13 "java/lang/IllegalArgumentException" ∈ bW := bW_mem 708 (by decide +kernel) (by decide +kernel)
theorem kL709 : Cond.classLink RL 15 "java/lang/UnsupportedOperationException" ∈ bW := bW_mem 709 (by decide +kernel) (by decide +kernel)
theorem kL710 : Cond.methodLink RL 7 yX11_promenade ∈ bW := bW_mem 710 (by decide +kernel) (by decide +kernel)
theorem kL711 : Cond.instanceMethod yX11_promenade ∈ bW := bW_mem 711 (by decide +kernel) (by decide +kernel)
theorem kL712 : Cond.selects RX11 yX11_promenade yX11_promenade ∈ bW := bW_mem 712 (by decide +kernel) (by decide +kernel)
theorem kL713 : Cond.code yX11_promenade cX11_promenade 1 (some .int) ∈ bW := bW_mem 713 (by decide +kernel) (by decide +kernel)
theorem nL943 : Cond.castable "java/lang/IllegalArgumentException" "java/lang/IllegalArgumentException" ∈ nW := nW_mem 943 (by decide +kernel) (by decide +kernel)
theorem nL1013 : Cond.castable "java/lang/UnsupportedOperationException" "java/lang/UnsupportedOperationException" ∈ nW := nW_mem 1013 (by decide +kernel) (by decide +kernel)
theorem kL1030 : Cond.methodLink RL 17 yX11_law ∈ bW := bW_mem 1030 (by decide +kernel) (by decide +kernel)
theorem kL1031 : Cond.instanceMethod yX11_law ∈ bW := bW_mem 1031 (by decide +kernel) (by decide +kernel)
theorem kL1032 : Cond.selects RX11 yX11_law yX11_law ∈ bW := bW_mem 1032 (by decide +kernel) (by decide +kernel)
theorem kL1033 : Cond.code yX11_law cX11_law 1 (some .int) ∈ bW := bW_mem 1033 (by decide +kernel) (by decide +kernel)
theorem kL1044 : Cond.classLink RL 24 "java/lang/IndexOutOfBoundsException" ∈ bW := bW_mem 1044 (by decide +kernel) (by decide +kernel)
theorem kL1045 : Cond.classLink RL 26 "java/util/NoSuchElementException" ∈ bW := bW_mem 1045 (by decide +kernel) (by decide +kernel)
theorem kL1046 : Cond.methodLink RL 20 yX11_walker ∈ bW := bW_mem 1046 (by decide +kernel) (by decide +kernel)
theorem kL1047 : Cond.instanceMethod yX11_walker ∈ bW := bW_mem 1047 (by decide +kernel) (by decide +kernel)
theorem kL1048 : Cond.selects RX11 yX11_walker yX11_walker ∈ bW := bW_mem 1048 (by decide +kernel) (by decide +kernel)
theorem kL1049 : Cond.code yX11_walker cX11_walker 3 (some .int) ∈ bW := bW_mem 1049 (by decide +kernel) (by decide +kernel)
theorem nL1056 : Cond.castable "java/lang/IndexOutOfBoundsException" "java/lang/IndexOutOfBoundsException" ∈ nW := nW_mem 1056 (by decide +kernel) (by decide +kernel)
theorem nL1117 : Cond.castable "java/util/NoSuchElementException" "java/util/NoSuchElementException" ∈ nW := nW_mem 1117 (by decide +kernel) (by decide +kernel)
theorem kL1134 : Cond.methodLink RL 28 yX11_shelter ∈ bW := bW_mem 1134 (by decide +kernel) (by decide +kernel)
theorem kL1135 : Cond.instanceMethod yX11_shelter ∈ bW := bW_mem 1135 (by decide +kernel) (by decide +kernel)
theorem kL1136 : Cond.selects RX11 yX11_shelter yX11_shelter ∈ bW := bW_mem 1136 (by decide +kernel) (by decide +kernel)
theorem kL1137 : Cond.code yX11_shelter cX11_shelter 3 (some .int) ∈ bW := bW_mem 1137 (by decide +kernel) (by decide +kernel)
theorem kL1157 : Cond.methodLink RL 31 yX11_gap ∈ bW := bW_mem 1157 (by decide +kernel) (by decide +kernel)
theorem kL1158 : Cond.instanceMethod yX11_gap ∈ bW := bW_mem 1158 (by decide +kernel) (by decide +kernel)
theorem kL1159 : Cond.selects RX11 yX11_gap yX11_gap ∈ bW := bW_mem 1159 (by decide +kernel) (by decide +kernel)
theorem kL1160 : Cond.code yX11_gap cX11_gap 3 (some .int) ∈ bW := bW_mem 1160 (by decide +kernel) (by decide +kernel)
theorem kL1170 : Cond.methodLink RL 34 yX11_hours ∈ bW := bW_mem 1170 (by decide +kernel) (by decide +kernel)
theorem kL1171 : Cond.instanceMethod yX11_hours ∈ bW := bW_mem 1171 (by decide +kernel) (by decide +kernel)
theorem kL1172 : Cond.selects RX11 yX11_hours yX11_hours ∈ bW := bW_mem 1172 (by decide +kernel) (by decide +kernel)
theorem kL1173 : Cond.code yX11_hours cX11_hours 4 (some .int) ∈ bW := bW_mem 1173 (by decide +kernel) (by decide +kernel)
theorem kL1190 : Cond.classLink RL 41 "java/lang/IllegalStateException" ∈ bW := bW_mem 1190 (by decide +kernel) (by decide +kernel)
theorem kL1191 : Cond.methodLink RL 38 yX11_out ∈ bW := bW_mem 1191 (by decide +kernel) (by decide +kernel)
theorem kL1192 : Cond.instanceMethod yX11_out ∈ bW := bW_mem 1192 (by decide +kernel) (by decide +kernel)
theorem kL1193 : Cond.selects RX11 yX11_out yX11_out ∈ bW := bW_mem 1193 (by decide +kernel) (by decide +kernel)
theorem kL1194 : Cond.code yX11_out cX11_out 2 (some .int) ∈ bW := bW_mem 1194 (by decide +kernel) (by decide +kernel)
theorem nL1197 : Cond.castable "java/lang/IllegalStateException" "java/lang/IllegalStateException" ∈ nW := nW_mem 1197 (by decide +kernel) (by decide +kernel)
theorem kL1215 : Cond.methodLink RL 43 yX11_pace ∈ bW := bW_mem 1215 (by decide +kernel) (by decide +kernel)
theorem kL1216 : Cond.instanceMethod yX11_pace ∈ bW := bW_mem 1216 (by decide +kernel) (by decide +kernel)
theorem kL1217 : Cond.selects RX11 yX11_pace yX11_pace ∈ bW := bW_mem 1217 (by decide +kernel) (by decide +kernel)
theorem kL1218 : Cond.code yX11_pace cX11_pace 4 (some .int) ∈ bW := bW_mem 1218 (by decide +kernel) (by decide +kernel)
theorem kL1241 : Cond.methodLink RL 54 yX11_move ∈ bW := bW_mem 1241 (by decide +kernel) (by decide +kernel)
theorem kL1242 : Cond.instanceMethod yX11_move ∈ bW := bW_mem 1242 (by decide +kernel) (by decide +kernel)
theorem kL1243 : Cond.selects RX11 yX11_move yX11_move ∈ bW := bW_mem 1243 (by decide +kernel) (by decide +kernel)
theorem kL1244 : Cond.code yX11_move cX11_move 4 (some .int) ∈ bW := bW_mem 1244 (by decide +kernel) (by decide +kernel)
theorem kL1248 : Cond.methodLink RL 57 yX11_lad ∈ bW := bW_mem 1248 (by decide +kernel) (by decide +kernel)
theorem kL1249 : Cond.instanceMethod yX11_lad ∈ bW := bW_mem 1249 (by decide +kernel) (by decide +kernel)
theorem kL1250 : Cond.selects RX11 yX11_lad yX11_lad ∈ bW := bW_mem 1250 (by decide +kernel) (by decide +kernel)
theorem kL1251 : Cond.code yX11_lad cX11_lad 2 (some .int) ∈ bW := bW_mem 1251 (by decide +kernel) (by decide +kernel)
theorem kL1256 : Cond.methodLink RL 60 yX11_where ∈ bW := bW_mem 1256 (by decide +kernel) (by decide +kernel)
theorem kL1257 : Cond.instanceMethod yX11_where ∈ bW := bW_mem 1257 (by decide +kernel) (by decide +kernel)
theorem kL1258 : Cond.selects RX11 yX11_where yX11_where ∈ bW := bW_mem 1258 (by decide +kernel) (by decide +kernel)
theorem kL1259 : Cond.code yX11_where cX11_where 3 (some .int) ∈ bW := bW_mem 1259 (by decide +kernel) (by decide +kernel)
theorem kL1267 : Cond.methodLink RL 63 yX11_up ∈ bW := bW_mem 1267 (by decide +kernel) (by decide +kernel)
theorem kL1268 : Cond.instanceMethod yX11_up ∈ bW := bW_mem 1268 (by decide +kernel) (by decide +kernel)
theorem kL1269 : Cond.selects RX11 yX11_up yX11_up ∈ bW := bW_mem 1269 (by decide +kernel) (by decide +kernel)
theorem kL1270 : Cond.code yX11_up cX11_up 4 (some .int) ∈ bW := bW_mem 1270 (by decide +kernel) (by decide +kernel)
theorem kL1274 : Cond.methodLink RL 66 yX11_circle ∈ bW := bW_mem 1274 (by decide +kernel) (by decide +kernel)
theorem kL1275 : Cond.instanceMethod yX11_circle ∈ bW := bW_mem 1275 (by decide +kernel) (by decide +kernel)
theorem kL1276 : Cond.selects RX11 yX11_circle yX11_circle ∈ bW := bW_mem 1276 (by decide +kernel) (by decide +kernel)
theorem kL1277 : Cond.code yX11_circle cX11_circle 3 (some .int) ∈ bW := bW_mem 1277 (by decide +kernel) (by decide +kernel)
theorem kL1281 : Cond.methodLink RL 69 yX11_laps ∈ bW := bW_mem 1281 (by decide +kernel) (by decide +kernel)
theorem kL1282 : Cond.instanceMethod yX11_laps ∈ bW := bW_mem 1282 (by decide +kernel) (by decide +kernel)
theorem kL1283 : Cond.selects RX11 yX11_laps yX11_laps ∈ bW := bW_mem 1283 (by decide +kernel) (by decide +kernel)
theorem kL1284 : Cond.code yX11_laps cX11_laps 3 (some .int) ∈ bW := bW_mem 1284 (by decide +kernel) (by decide +kernel)
theorem kL1288 : Cond.methodLink RL 72 yX11_alone ∈ bW := bW_mem 1288 (by decide +kernel) (by decide +kernel)
theorem kL1289 : Cond.instanceMethod yX11_alone ∈ bW := bW_mem 1289 (by decide +kernel) (by decide +kernel)
theorem kL1290 : Cond.selects RX11 yX11_alone yX11_alone ∈ bW := bW_mem 1290 (by decide +kernel) (by decide +kernel)
theorem kL1291 : Cond.code yX11_alone cX11_alone 4 (some .int) ∈ bW := bW_mem 1291 (by decide +kernel) (by decide +kernel)
theorem kL1299 : Cond.methodLink RL 75 yX11_both ∈ bW := bW_mem 1299 (by decide +kernel) (by decide +kernel)
theorem kL1300 : Cond.instanceMethod yX11_both ∈ bW := bW_mem 1300 (by decide +kernel) (by decide +kernel)
theorem kL1301 : Cond.selects RX11 yX11_both yX11_both ∈ bW := bW_mem 1301 (by decide +kernel) (by decide +kernel)
theorem kL1302 : Cond.code yX11_both cX11_both 4 (some .int) ∈ bW := bW_mem 1302 (by decide +kernel) (by decide +kernel)
theorem kL1306 : Cond.methodLink RL 78 yX11_period ∈ bW := bW_mem 1306 (by decide +kernel) (by decide +kernel)
theorem kL1307 : Cond.instanceMethod yX11_period ∈ bW := bW_mem 1307 (by decide +kernel) (by decide +kernel)
theorem kL1308 : Cond.selects RX11 yX11_period yX11_period ∈ bW := bW_mem 1308 (by decide +kernel) (by decide +kernel)
theorem kL1309 : Cond.code yX11_period cX11_period 3 (some .int) ∈ bW := bW_mem 1309 (by decide +kernel) (by decide +kernel)
theorem kL1313 : Cond.methodLink RL 81 yX11_stands ∈ bW := bW_mem 1313 (by decide +kernel) (by decide +kernel)
theorem kL1314 : Cond.instanceMethod yX11_stands ∈ bW := bW_mem 1314 (by decide +kernel) (by decide +kernel)
theorem kL1315 : Cond.selects RX11 yX11_stands yX11_stands ∈ bW := bW_mem 1315 (by decide +kernel) (by decide +kernel)
theorem kL1316 : Cond.code yX11_stands cX11_stands 7 (some .int) ∈ bW := bW_mem 1316 (by decide +kernel) (by decide +kernel)
theorem kL1320 : Cond.methodLink RL 85 yX11_backs ∈ bW := bW_mem 1320 (by decide +kernel) (by decide +kernel)
theorem kL1321 : Cond.instanceMethod yX11_backs ∈ bW := bW_mem 1321 (by decide +kernel) (by decide +kernel)
theorem kL1322 : Cond.selects RX11 yX11_backs yX11_backs ∈ bW := bW_mem 1322 (by decide +kernel) (by decide +kernel)
theorem kL1323 : Cond.code yX11_backs cX11_backs 3 (some .int) ∈ bW := bW_mem 1323 (by decide +kernel) (by decide +kernel)
theorem kL1351 : Cond.methodLink RL 88 yX11_ask ∈ bW := bW_mem 1351 (by decide +kernel) (by decide +kernel)
theorem kL1352 : Cond.instanceMethod yX11_ask ∈ bW := bW_mem 1352 (by decide +kernel) (by decide +kernel)
theorem kL1353 : Cond.selects RX11 yX11_ask yX11_ask ∈ bW := bW_mem 1353 (by decide +kernel) (by decide +kernel)
theorem kL1354 : Cond.code yX11_ask cX11_ask 1 (some .int) ∈ bW := bW_mem 1354 (by decide +kernel) (by decide +kernel)
theorem kL1363 : Cond.methodLink RL 91 yX11_round ∈ bW := bW_mem 1363 (by decide +kernel) (by decide +kernel)
theorem kL1364 : Cond.instanceMethod yX11_round ∈ bW := bW_mem 1364 (by decide +kernel) (by decide +kernel)
theorem kL1365 : Cond.selects RX11 yX11_round yX11_round ∈ bW := bW_mem 1365 (by decide +kernel) (by decide +kernel)
theorem kL1366 : Cond.code yX11_round cX11_round 2 (some .int) ∈ bW := bW_mem 1366 (by decide +kernel) (by decide +kernel)
theorem kL1387 : Cond.methodLink RL 95 yX11_tries ∈ bW := bW_mem 1387 (by decide +kernel) (by decide +kernel)
theorem kL1388 : Cond.instanceMethod yX11_tries ∈ bW := bW_mem 1388 (by decide +kernel) (by decide +kernel)
theorem kL1389 : Cond.selects RX11 yX11_tries yX11_tries ∈ bW := bW_mem 1389 (by decide +kernel) (by decide +kernel)
theorem kL1390 : Cond.code yX11_tries cX11_tries 1 (some .int) ∈ bW := bW_mem 1390 (by decide +kernel) (by decide +kernel)
theorem kL1404 : Cond.methodLink RL 98 yX11_calls ∈ bW := bW_mem 1404 (by decide +kernel) (by decide +kernel)
theorem kL1405 : Cond.instanceMethod yX11_calls ∈ bW := bW_mem 1405 (by decide +kernel) (by decide +kernel)
theorem kL1406 : Cond.selects RX11 yX11_calls yX11_calls ∈ bW := bW_mem 1406 (by decide +kernel) (by decide +kernel)
theorem kL1407 : Cond.code yX11_calls cX11_calls 6 (some .int) ∈ bW := bW_mem 1407 (by decide +kernel) (by decide +kernel)
theorem kL1415 : Cond.methodLink RL 101 yX11_told ∈ bW := bW_mem 1415 (by decide +kernel) (by decide +kernel)
theorem kL1416 : Cond.instanceMethod yX11_told ∈ bW := bW_mem 1416 (by decide +kernel) (by decide +kernel)
theorem kL1417 : Cond.selects RX11 yX11_told yX11_told ∈ bW := bW_mem 1417 (by decide +kernel) (by decide +kernel)
theorem kL1418 : Cond.code yX11_told cX11_told 5 (some .int) ∈ bW := bW_mem 1418 (by decide +kernel) (by decide +kernel)
theorem kL1422 : Cond.methodLink RL 104 yX11_few ∈ bW := bW_mem 1422 (by decide +kernel) (by decide +kernel)
theorem kL1423 : Cond.instanceMethod yX11_few ∈ bW := bW_mem 1423 (by decide +kernel) (by decide +kernel)
theorem kL1424 : Cond.selects RX11 yX11_few yX11_few ∈ bW := bW_mem 1424 (by decide +kernel) (by decide +kernel)
theorem kL1425 : Cond.code yX11_few cX11_few 4 (some .int) ∈ bW := bW_mem 1425 (by decide +kernel) (by decide +kernel)
theorem kL1433 : Cond.methodLink RL 107 yX11_seated ∈ bW := bW_mem 1433 (by decide +kernel) (by decide +kernel)
theorem kL1434 : Cond.instanceMethod yX11_seated ∈ bW := bW_mem 1434 (by decide +kernel) (by decide +kernel)
theorem kL1435 : Cond.selects RX11 yX11_seated yX11_seated ∈ bW := bW_mem 1435 (by decide +kernel) (by decide +kernel)
theorem kL1436 : Cond.code yX11_seated cX11_seated 2 (some .int) ∈ bW := bW_mem 1436 (by decide +kernel) (by decide +kernel)
theorem kL1440 : Cond.methodLink RL 110 yX11_chase ∈ bW := bW_mem 1440 (by decide +kernel) (by decide +kernel)
theorem kL1441 : Cond.instanceMethod yX11_chase ∈ bW := bW_mem 1441 (by decide +kernel) (by decide +kernel)
theorem kL1442 : Cond.selects RX11 yX11_chase yX11_chase ∈ bW := bW_mem 1442 (by decide +kernel) (by decide +kernel)
theorem kL1443 : Cond.code yX11_chase cX11_chase 3 (some .int) ∈ bW := bW_mem 1443 (by decide +kernel) (by decide +kernel)
theorem kL1447 : Cond.methodLink RL 113 yX11_couples ∈ bW := bW_mem 1447 (by decide +kernel) (by decide +kernel)
theorem kL1448 : Cond.instanceMethod yX11_couples ∈ bW := bW_mem 1448 (by decide +kernel) (by decide +kernel)
theorem kL1449 : Cond.selects RX11 yX11_couples yX11_couples ∈ bW := bW_mem 1449 (by decide +kernel) (by decide +kernel)
theorem kL1450 : Cond.code yX11_couples cX11_couples 2 (some .int) ∈ bW := bW_mem 1450 (by decide +kernel) (by decide +kernel)
theorem kL1477 : Cond.methodLink RL 116 yX11_rests ∈ bW := bW_mem 1477 (by decide +kernel) (by decide +kernel)
theorem kL1478 : Cond.instanceMethod yX11_rests ∈ bW := bW_mem 1478 (by decide +kernel) (by decide +kernel)
theorem kL1479 : Cond.selects RX11 yX11_rests yX11_rests ∈ bW := bW_mem 1479 (by decide +kernel) (by decide +kernel)
theorem kL1480 : Cond.code yX11_rests cX11_rests 8 (some .int) ∈ bW := bW_mem 1480 (by decide +kernel) (by decide +kernel)
theorem kL1488 : Cond.methodLink RL 119 yX11_odds ∈ bW := bW_mem 1488 (by decide +kernel) (by decide +kernel)
theorem kL1489 : Cond.instanceMethod yX11_odds ∈ bW := bW_mem 1489 (by decide +kernel) (by decide +kernel)
theorem kL1490 : Cond.selects RX11 yX11_odds yX11_odds ∈ bW := bW_mem 1490 (by decide +kernel) (by decide +kernel)
theorem kL1491 : Cond.code yX11_odds cX11_odds 8 (some .int) ∈ bW := bW_mem 1491 (by decide +kernel) (by decide +kernel)
theorem kL1502 : Cond.methodLink RL 122 yX11_bunch ∈ bW := bW_mem 1502 (by decide +kernel) (by decide +kernel)
theorem kL1503 : Cond.instanceMethod yX11_bunch ∈ bW := bW_mem 1503 (by decide +kernel) (by decide +kernel)
theorem kL1504 : Cond.selects RX11 yX11_bunch yX11_bunch ∈ bW := bW_mem 1504 (by decide +kernel) (by decide +kernel)
theorem kL1505 : Cond.code yX11_bunch cX11_bunch 4 (some .int) ∈ bW := bW_mem 1505 (by decide +kernel) (by decide +kernel)
theorem kL1509 : Cond.methodLink RL 125 yX11_trial ∈ bW := bW_mem 1509 (by decide +kernel) (by decide +kernel)
theorem kL1510 : Cond.instanceMethod yX11_trial ∈ bW := bW_mem 1510 (by decide +kernel) (by decide +kernel)
theorem kL1511 : Cond.selects RX11 yX11_trial yX11_trial ∈ bW := bW_mem 1511 (by decide +kernel) (by decide +kernel)
theorem kL1512 : Cond.code yX11_trial cX11_trial 4 (some .int) ∈ bW := bW_mem 1512 (by decide +kernel) (by decide +kernel)
theorem kL1520 : Cond.methodLink RL 129 yX11_span ∈ bW := bW_mem 1520 (by decide +kernel) (by decide +kernel)
theorem kL1521 : Cond.instanceMethod yX11_span ∈ bW := bW_mem 1521 (by decide +kernel) (by decide +kernel)
theorem kL1522 : Cond.selects RX11 yX11_span yX11_span ∈ bW := bW_mem 1522 (by decide +kernel) (by decide +kernel)
theorem kL1523 : Cond.code yX11_span cX11_span 6 (some .int) ∈ bW := bW_mem 1523 (by decide +kernel) (by decide +kernel)
theorem kL1527 : Cond.methodLink RL 132 yX11_led ∈ bW := bW_mem 1527 (by decide +kernel) (by decide +kernel)
theorem kL1528 : Cond.instanceMethod yX11_led ∈ bW := bW_mem 1528 (by decide +kernel) (by decide +kernel)
theorem kL1529 : Cond.selects RX11 yX11_led yX11_led ∈ bW := bW_mem 1529 (by decide +kernel) (by decide +kernel)
theorem kL1530 : Cond.code yX11_led cX11_led 5 (some .int) ∈ bW := bW_mem 1530 (by decide +kernel) (by decide +kernel)
theorem kL1541 : Cond.methodLink RL 135 yX11_log ∈ bW := bW_mem 1541 (by decide +kernel) (by decide +kernel)
theorem kL1542 : Cond.instanceMethod yX11_log ∈ bW := bW_mem 1542 (by decide +kernel) (by decide +kernel)
theorem kL1543 : Cond.selects RX11 yX11_log yX11_log ∈ bW := bW_mem 1543 (by decide +kernel) (by decide +kernel)
theorem kL1544 : Cond.code yX11_log cX11_log 3 (some .int) ∈ bW := bW_mem 1544 (by decide +kernel) (by decide +kernel)
theorem cwL_promenade : cwd RL 7 yX11_promenade cX11_promenade 1 (some .int) 0 := ⟨kL710, kL711, kL712, kL165, kL713, by decide, by decide, by decide +kernel⟩
set_option maxRecDepth 100000 in
theorem c_L_promenade {l : Launch} {κ : EK} {D : va_G} {G : XG} {aB : Nat → Nat} {aTp : Nat} {aSn : Nat} {aNw : Nat → Nat} {aLa : Nat → Nat} {aSt : Nat → Nat} {aKp : Nat → Nat} {aKl : Nat → Nat} {aPr : Nat → Nat} {aPs : Nat → Nat} {aLr : Nat → Nat} {aLl : Nat → Nat} {aOd : Nat → Nat} {aLn : Nat → Nat} {aSe : Nat → Nat} {aCu : Nat → Nat} {aPa : Nat → Nat → Nat} {sz : Nat} {B : OS} {tp : AT} {sn : AT} {Nw : OS} {La : OS} {St : OS} {Kp : OS} {Kl : OS} {Pr : OX} {Ps : OS} {Lr : OX} {Ll : OS} {Od : OS} {Ln : OS} {Se : OS} {Cu : OS} {Pa : PS}  {cO : ClassId} {aO : Nat} {f : Nat → Int64} {post : Int32 → XS × (Nat → Int64) → Prop} (hst : l.stackTraces = false) (h : m_X11_promenade (fun E x => (E = "java/lang/IllegalArgumentException" ∧ post 1 (x, f)) ∨ (E = "java/lang/UnsupportedOperationException" ∧ post 2 (x, f))) B tp sn Nw La St Kp Kl Pr Ps Lr Ll Od Ln Se Cu Pa (fun r x => post 0 (x, vp_updL f 0 r.toInt64))) : vx_Met l yL_promenade (bH yL_promenade cL_promenade 3 (some .int) [(0, 8, 11, 13), (0, 8, 14, 15)]) (rmX 57 1) (fP (eW κ) (dOw aO (dX aB aTp aSn aNw aLa aSt aKp aKl aPr aPs aLr aLl aOd aLn aSe aCu aPa)) D (fOw (wX G aB aTp aSn aNw aLa aSt aKp aKl aPr aPs aLr aLl aOd aLn aSe aCu aPa) cO aO) ((cO, .long) :: xT G) sz ((B, tp, sn, Nw, La, St, Kp, Kl, Pr, Ps, Lr, Ll, Od, Ln, Se, Cu, Pa), f) [.ref (aB 0), .ref aO]) (va_Qi post (fB D (fOw (wX G aB aTp aSn aNw aLa aSt aKp aKl aPr aPs aLr aLl aOd aLn aSe aCu aPa) cO aO) ((cO, .long) :: xT G) (dOw aO (dX aB aTp aSn aNw aLa aSt aKp aKl aPr aPs aLr aLl aOd aLn aSe aCu aPa)) sz) (fA (dOw aO (dX aB aTp aSn aNw aLa aSt aKp aKl aPr aPs aLr aLl aOd aLn aSe aCu aPa)) sz)) (fun _ _ _ => False) 1 6 (fA (dOw aO (dX aB aTp aSn aNw aLa aSt aKp aKl aPr aPs aLr aLl aOd aLn aSe aCu aPa)) sz) := by
  refine fh_enter (fOw_ax xX).ad (by decide) (Nat.le_of_ble_eq_true rfl) ?_
  intro p e s m below meth c hz K9 hr hk htb I ls hl
  have K := K9.v
  have hx := K.x
  have hb := K.b
  have hl : lv_has ls 3 [(0, .ref (aB 0)), (1, .ref aO)] := hl
  refine lv_aload_n hx hb dL_promenade_0 rfl (lv_at hl 1 rfl) ?_
  refine lv_iconst hx hb dL_promenade_1 rfl ?_
  refine lv_aload_n hx hb dL_promenade_2 rfl (lv_at hl 0 rfl) ?_
  exact wr_two (la := 1) (la2 := 1) (pg := 17) (As := []) xX cwL_promenade (c_X11_promenade hst h) rfl rfl ⟨Nat.le_of_ble_eq_true rfl, Nat.le_of_ble_eq_true rfl⟩ [1, 2] rfl (va_recv K.k I.1 (ci := 9) (q0 := 1) rfl rfl) rfl hl.1 K hr hk hz I ⟨Nat.le_of_ble_eq_true rfl, Nat.le_of_ble_eq_true rfl⟩ htb (by decide) (by decide) kL708 nL943 (by decide) kL709 nL1013 (K9.nc (by decide)) dL_promenade_3 dL_promenade_6 dL_promenade_7 dL_promenade_8 (by decide) (fun H1 locs1 q Q1 k => lv_astore_n hx hb dL_promenade_11 rfl hl (by decide) rfl (fun ls9 _ => k ls9)) dL_promenade_12 dL_promenade_13 (fun H1 locs1 q Q1 k => lv_astore_n hx hb dL_promenade_14 rfl hl (by decide) rfl (fun ls9 _ => k ls9)) dL_promenade_15 dL_promenade_16 dL_promenade_17 dL_promenade_18
theorem cwL_law : cwd RL 17 yX11_law cX11_law 1 (some .int) 0 := ⟨kL1030, kL1031, kL1032, kL165, kL1033, by decide, by decide, by decide +kernel⟩
set_option maxRecDepth 100000 in
theorem c_L_law {l : Launch} {κ : EK} {D : va_G} {G : XG} {aB : Nat → Nat} {aTp : Nat} {aSn : Nat} {aNw : Nat → Nat} {aLa : Nat → Nat} {aSt : Nat → Nat} {aKp : Nat → Nat} {aKl : Nat → Nat} {aPr : Nat → Nat} {aPs : Nat → Nat} {aLr : Nat → Nat} {aLl : Nat → Nat} {aOd : Nat → Nat} {aLn : Nat → Nat} {aSe : Nat → Nat} {aCu : Nat → Nat} {aPa : Nat → Nat → Nat} {sz : Nat} {B : OS} {tp : AT} {sn : AT} {Nw : OS} {La : OS} {St : OS} {Kp : OS} {Kl : OS} {Pr : OX} {Ps : OS} {Lr : OX} {Ll : OS} {Od : OS} {Ln : OS} {Se : OS} {Cu : OS} {Pa : PS}  {cO : ClassId} {aO : Nat} {f : Nat → Int64} {post : Int32 → XS × (Nat → Int64) → Prop} (hst : l.stackTraces = false) (h : m_X11_law (fun E x => E = "java/lang/IllegalArgumentException" ∧ post 1 (x, f)) B tp sn Nw La St Kp Kl Pr Ps Lr Ll Od Ln Se Cu Pa (fun r x => post 0 (x, vp_updL f 0 r.toInt64))) : vx_Met l yL_law (bH yL_law cL_law 3 (some .int) [(0, 8, 11, 13)]) (rmX 57 1) (fP (eW κ) (dOw aO (dX aB aTp aSn aNw aLa aSt aKp aKl aPr aPs aLr aLl aOd aLn aSe aCu aPa)) D (fOw (wX G aB aTp aSn aNw aLa aSt aKp aKl aPr aPs aLr aLl aOd aLn aSe aCu aPa) cO aO) ((cO, .long) :: xT G) sz ((B, tp, sn, Nw, La, St, Kp, Kl, Pr, Ps, Lr, Ll, Od, Ln, Se, Cu, Pa), f) [.ref (aB 0), .ref aO]) (va_Qi post (fB D (fOw (wX G aB aTp aSn aNw aLa aSt aKp aKl aPr aPs aLr aLl aOd aLn aSe aCu aPa) cO aO) ((cO, .long) :: xT G) (dOw aO (dX aB aTp aSn aNw aLa aSt aKp aKl aPr aPs aLr aLl aOd aLn aSe aCu aPa)) sz) (fA (dOw aO (dX aB aTp aSn aNw aLa aSt aKp aKl aPr aPs aLr aLl aOd aLn aSe aCu aPa)) sz)) (fun _ _ _ => False) 1 6 (fA (dOw aO (dX aB aTp aSn aNw aLa aSt aKp aKl aPr aPs aLr aLl aOd aLn aSe aCu aPa)) sz) := by
  refine fh_enter (fOw_ax xX).ad (by decide) (Nat.le_of_ble_eq_true rfl) ?_
  intro p e s m below meth c hz K9 hr hk htb I ls hl
  have K := K9.v
  have hx := K.x
  have hb := K.b
  have hl : lv_has ls 3 [(0, .ref (aB 0)), (1, .ref aO)] := hl
  refine lv_aload_n hx hb dL_law_0 rfl (lv_at hl 1 rfl) ?_
  refine lv_iconst hx hb dL_law_1 rfl ?_
  refine lv_aload_n hx hb dL_law_2 rfl (lv_at hl 0 rfl) ?_
  exact wr_one (la := 1) (pg := 14) (As := []) xX cwL_law (c_X11_law hst h) rfl rfl ⟨Nat.le_of_ble_eq_true rfl, Nat.le_of_ble_eq_true rfl⟩ [1, 2] rfl (va_recv K.k I.1 (ci := 9) (q0 := 1) rfl rfl) rfl hl.1 K hr hk hz I ⟨Nat.le_of_ble_eq_true rfl, Nat.le_of_ble_eq_true rfl⟩ htb (by decide) (by decide) kL708 nL943 dL_law_3 dL_law_6 dL_law_7 dL_law_8 (by decide) (fun H1 locs1 q Q1 k => lv_astore_n hx hb dL_law_11 rfl hl (by decide) rfl (fun ls9 _ => k ls9)) dL_law_12 dL_law_13 dL_law_14 dL_law_15
theorem cwL_walker : cwd RL 20 yX11_walker cX11_walker 3 (some .int) 2 := ⟨kL1046, kL1047, kL1048, kL165, kL1049, by decide, by decide, by decide +kernel⟩
set_option maxRecDepth 100000 in
theorem c_L_walker {l : Launch} {κ : EK} {D : va_G} {G : XG} {aB : Nat → Nat} {aTp : Nat} {aSn : Nat} {aNw : Nat → Nat} {aLa : Nat → Nat} {aSt : Nat → Nat} {aKp : Nat → Nat} {aKl : Nat → Nat} {aPr : Nat → Nat} {aPs : Nat → Nat} {aLr : Nat → Nat} {aLl : Nat → Nat} {aOd : Nat → Nat} {aLn : Nat → Nat} {aSe : Nat → Nat} {aCu : Nat → Nat} {aPa : Nat → Nat → Nat} {sz : Nat} {B : OS} {tp : AT} {sn : AT} {Nw : OS} {La : OS} {St : OS} {Kp : OS} {Kl : OS} {Pr : OX} {Ps : OS} {Lr : OX} {Ll : OS} {Od : OS} {Ln : OS} {Se : OS} {Cu : OS} {Pa : PS} {p0 : Int32} {p1 : Int32} {cO : ClassId} {aO : Nat} {f : Nat → Int64} {post : Int32 → XS × (Nat → Int64) → Prop} (hst : l.stackTraces = false) (h : m_X11_walker (fun E x => (E = "java/lang/IndexOutOfBoundsException" ∧ post 1 (x, f)) ∨ (E = "java/util/NoSuchElementException" ∧ post 2 (x, f))) B tp sn Nw La St Kp Kl Pr Ps Lr Ll Od Ln Se Cu Pa p0 p1 (fun r x => post 0 (x, vp_updL f 0 r.toInt64))) : vx_Met l yL_walker (bH yL_walker cL_walker 5 (some .int) [(0, 10, 13, 24), (0, 10, 17, 26)]) (rmX 8 2) (fP (eW κ) (dOw aO (dX aB aTp aSn aNw aLa aSt aKp aKl aPr aPs aLr aLl aOd aLn aSe aCu aPa)) D (fOw (wX G aB aTp aSn aNw aLa aSt aKp aKl aPr aPs aLr aLl aOd aLn aSe aCu aPa) cO aO) ((cO, .long) :: xT G) sz ((B, tp, sn, Nw, La, St, Kp, Kl, Pr, Ps, Lr, Ll, Od, Ln, Se, Cu, Pa), f) [.ref (aB 0), .int p0, .int p1, .ref aO]) (va_Qi post (fB D (fOw (wX G aB aTp aSn aNw aLa aSt aKp aKl aPr aPs aLr aLl aOd aLn aSe aCu aPa) cO aO) ((cO, .long) :: xT G) (dOw aO (dX aB aTp aSn aNw aLa aSt aKp aKl aPr aPs aLr aLl aOd aLn aSe aCu aPa)) sz) (fA (dOw aO (dX aB aTp aSn aNw aLa aSt aKp aKl aPr aPs aLr aLl aOd aLn aSe aCu aPa)) sz)) (fun _ _ _ => False) 2 12 (fA (dOw aO (dX aB aTp aSn aNw aLa aSt aKp aKl aPr aPs aLr aLl aOd aLn aSe aCu aPa)) sz) := by
  refine fh_enter (fOw_ax xX).ad (by decide) (Nat.le_of_ble_eq_true rfl) ?_
  intro p e s m below meth c hz K9 hr hk htb I ls hl
  have K := K9.v
  have hx := K.x
  have hb := K.b
  have hl : lv_has ls 5 [(0, .ref (aB 0)), (1, .int p0), (2, .int p1), (3, .ref aO)] := hl
  refine lv_aload_n hx hb dL_walker_0 rfl (lv_at hl 3 rfl) ?_
  refine lv_iconst hx hb dL_walker_1 rfl ?_
  refine lv_aload_n hx hb dL_walker_2 rfl (lv_at hl 0 rfl) ?_
  refine lv_iload_n hx hb dL_walker_3 rfl (lv_at hl 1 rfl) ?_
  refine lv_iload_n hx hb dL_walker_4 rfl (lv_at hl 2 rfl) ?_
  exact wr_two (la := 2) (la2 := 2) (pg := 21) (As := [.int p0, .int p1]) xX cwL_walker (c_X11_walker hst h) rfl rfl ⟨Nat.le_of_ble_eq_true rfl, Nat.le_of_ble_eq_true rfl⟩ [1, 2] rfl (va_recv K.k I.1 (ci := 9) (q0 := 1) rfl rfl) rfl hl.1 K hr hk hz I ⟨Nat.le_of_ble_eq_true rfl, Nat.le_of_ble_eq_true rfl⟩ htb (by decide) (by decide) kL1044 nL1056 (by decide) kL1045 nL1117 (K9.nc (by decide)) dL_walker_5 dL_walker_8 dL_walker_9 dL_walker_10 (by decide) (fun H1 locs1 q Q1 k => lv_astore hx hb dL_walker_13 hl (by decide) rfl (fun ls9 _ => k ls9)) dL_walker_15 dL_walker_16 (fun H1 locs1 q Q1 k => lv_astore hx hb dL_walker_17 hl (by decide) rfl (fun ls9 _ => k ls9)) dL_walker_19 dL_walker_20 dL_walker_21 dL_walker_22
theorem cwL_shelter : cwd RL 28 yX11_shelter cX11_shelter 3 (some .int) 2 := ⟨kL1134, kL1135, kL1136, kL165, kL1137, by decide, by decide, by decide +kernel⟩
set_option maxRecDepth 100000 in
theorem c_L_shelter {l : Launch} {κ : EK} {D : va_G} {G : XG} {aB : Nat → Nat} {aTp : Nat} {aSn : Nat} {aNw : Nat → Nat} {aLa : Nat → Nat} {aSt : Nat → Nat} {aKp : Nat → Nat} {aKl : Nat → Nat} {aPr : Nat → Nat} {aPs : Nat → Nat} {aLr : Nat → Nat} {aLl : Nat → Nat} {aOd : Nat → Nat} {aLn : Nat → Nat} {aSe : Nat → Nat} {aCu : Nat → Nat} {aPa : Nat → Nat → Nat} {sz : Nat} {B : OS} {tp : AT} {sn : AT} {Nw : OS} {La : OS} {St : OS} {Kp : OS} {Kl : OS} {Pr : OX} {Ps : OS} {Lr : OX} {Ll : OS} {Od : OS} {Ln : OS} {Se : OS} {Cu : OS} {Pa : PS} {p0 : Int32} {p1 : Int32} {cO : ClassId} {aO : Nat} {f : Nat → Int64} {post : Int32 → XS × (Nat → Int64) → Prop} (hst : l.stackTraces = false) (h : m_X11_shelter (fun E x => (E = "java/lang/IndexOutOfBoundsException" ∧ post 1 (x, f)) ∨ (E = "java/util/NoSuchElementException" ∧ post 2 (x, f))) B tp sn Nw La St Kp Kl Pr Ps Lr Ll Od Ln Se Cu Pa p0 p1 (fun r x => post 0 (x, vp_updL f 0 r.toInt64))) : vx_Met l yL_shelter (bH yL_shelter cL_shelter 5 (some .int) [(0, 10, 13, 24), (0, 10, 17, 26)]) (rmX 8 2) (fP (eW κ) (dOw aO (dX aB aTp aSn aNw aLa aSt aKp aKl aPr aPs aLr aLl aOd aLn aSe aCu aPa)) D (fOw (wX G aB aTp aSn aNw aLa aSt aKp aKl aPr aPs aLr aLl aOd aLn aSe aCu aPa) cO aO) ((cO, .long) :: xT G) sz ((B, tp, sn, Nw, La, St, Kp, Kl, Pr, Ps, Lr, Ll, Od, Ln, Se, Cu, Pa), f) [.ref (aB 0), .int p0, .int p1, .ref aO]) (va_Qi post (fB D (fOw (wX G aB aTp aSn aNw aLa aSt aKp aKl aPr aPs aLr aLl aOd aLn aSe aCu aPa) cO aO) ((cO, .long) :: xT G) (dOw aO (dX aB aTp aSn aNw aLa aSt aKp aKl aPr aPs aLr aLl aOd aLn aSe aCu aPa)) sz) (fA (dOw aO (dX aB aTp aSn aNw aLa aSt aKp aKl aPr aPs aLr aLl aOd aLn aSe aCu aPa)) sz)) (fun _ _ _ => False) 2 12 (fA (dOw aO (dX aB aTp aSn aNw aLa aSt aKp aKl aPr aPs aLr aLl aOd aLn aSe aCu aPa)) sz) := by
  refine fh_enter (fOw_ax xX).ad (by decide) (Nat.le_of_ble_eq_true rfl) ?_
  intro p e s m below meth c hz K9 hr hk htb I ls hl
  have K := K9.v
  have hx := K.x
  have hb := K.b
  have hl : lv_has ls 5 [(0, .ref (aB 0)), (1, .int p0), (2, .int p1), (3, .ref aO)] := hl
  refine lv_aload_n hx hb dL_shelter_0 rfl (lv_at hl 3 rfl) ?_
  refine lv_iconst hx hb dL_shelter_1 rfl ?_
  refine lv_aload_n hx hb dL_shelter_2 rfl (lv_at hl 0 rfl) ?_
  refine lv_iload_n hx hb dL_shelter_3 rfl (lv_at hl 1 rfl) ?_
  refine lv_iload_n hx hb dL_shelter_4 rfl (lv_at hl 2 rfl) ?_
  exact wr_two (la := 2) (la2 := 2) (pg := 21) (As := [.int p0, .int p1]) xX cwL_shelter (c_X11_shelter hst h) rfl rfl ⟨Nat.le_of_ble_eq_true rfl, Nat.le_of_ble_eq_true rfl⟩ [1, 2] rfl (va_recv K.k I.1 (ci := 9) (q0 := 1) rfl rfl) rfl hl.1 K hr hk hz I ⟨Nat.le_of_ble_eq_true rfl, Nat.le_of_ble_eq_true rfl⟩ htb (by decide) (by decide) kL1044 nL1056 (by decide) kL1045 nL1117 (K9.nc (by decide)) dL_shelter_5 dL_shelter_8 dL_shelter_9 dL_shelter_10 (by decide) (fun H1 locs1 q Q1 k => lv_astore hx hb dL_shelter_13 hl (by decide) rfl (fun ls9 _ => k ls9)) dL_shelter_15 dL_shelter_16 (fun H1 locs1 q Q1 k => lv_astore hx hb dL_shelter_17 hl (by decide) rfl (fun ls9 _ => k ls9)) dL_shelter_19 dL_shelter_20 dL_shelter_21 dL_shelter_22
theorem cwL_gap : cwd RL 31 yX11_gap cX11_gap 3 (some .int) 2 := ⟨kL1157, kL1158, kL1159, kL165, kL1160, by decide, by decide, by decide +kernel⟩
set_option maxRecDepth 100000 in
theorem c_L_gap {l : Launch} {κ : EK} {D : va_G} {G : XG} {aB : Nat → Nat} {aTp : Nat} {aSn : Nat} {aNw : Nat → Nat} {aLa : Nat → Nat} {aSt : Nat → Nat} {aKp : Nat → Nat} {aKl : Nat → Nat} {aPr : Nat → Nat} {aPs : Nat → Nat} {aLr : Nat → Nat} {aLl : Nat → Nat} {aOd : Nat → Nat} {aLn : Nat → Nat} {aSe : Nat → Nat} {aCu : Nat → Nat} {aPa : Nat → Nat → Nat} {sz : Nat} {B : OS} {tp : AT} {sn : AT} {Nw : OS} {La : OS} {St : OS} {Kp : OS} {Kl : OS} {Pr : OX} {Ps : OS} {Lr : OX} {Ll : OS} {Od : OS} {Ln : OS} {Se : OS} {Cu : OS} {Pa : PS} {p0 : Int32} {p1 : Int32} {cO : ClassId} {aO : Nat} {f : Nat → Int64} {post : Int32 → XS × (Nat → Int64) → Prop} (hst : l.stackTraces = false) (h : m_X11_gap (fun E x => E = "java/lang/IndexOutOfBoundsException" ∧ post 1 (x, f)) B tp sn Nw La St Kp Kl Pr Ps Lr Ll Od Ln Se Cu Pa p0 p1 (fun r x => post 0 (x, vp_updL f 0 r.toInt64))) : vx_Met l yL_gap (bH yL_gap cL_gap 5 (some .int) [(0, 10, 13, 24)]) (rmX 8 2) (fP (eW κ) (dOw aO (dX aB aTp aSn aNw aLa aSt aKp aKl aPr aPs aLr aLl aOd aLn aSe aCu aPa)) D (fOw (wX G aB aTp aSn aNw aLa aSt aKp aKl aPr aPs aLr aLl aOd aLn aSe aCu aPa) cO aO) ((cO, .long) :: xT G) sz ((B, tp, sn, Nw, La, St, Kp, Kl, Pr, Ps, Lr, Ll, Od, Ln, Se, Cu, Pa), f) [.ref (aB 0), .int p0, .int p1, .ref aO]) (va_Qi post (fB D (fOw (wX G aB aTp aSn aNw aLa aSt aKp aKl aPr aPs aLr aLl aOd aLn aSe aCu aPa) cO aO) ((cO, .long) :: xT G) (dOw aO (dX aB aTp aSn aNw aLa aSt aKp aKl aPr aPs aLr aLl aOd aLn aSe aCu aPa)) sz) (fA (dOw aO (dX aB aTp aSn aNw aLa aSt aKp aKl aPr aPs aLr aLl aOd aLn aSe aCu aPa)) sz)) (fun _ _ _ => False) 2 12 (fA (dOw aO (dX aB aTp aSn aNw aLa aSt aKp aKl aPr aPs aLr aLl aOd aLn aSe aCu aPa)) sz) := by
  refine fh_enter (fOw_ax xX).ad (by decide) (Nat.le_of_ble_eq_true rfl) ?_
  intro p e s m below meth c hz K9 hr hk htb I ls hl
  have K := K9.v
  have hx := K.x
  have hb := K.b
  have hl : lv_has ls 5 [(0, .ref (aB 0)), (1, .int p0), (2, .int p1), (3, .ref aO)] := hl
  refine lv_aload_n hx hb dL_gap_0 rfl (lv_at hl 3 rfl) ?_
  refine lv_iconst hx hb dL_gap_1 rfl ?_
  refine lv_aload_n hx hb dL_gap_2 rfl (lv_at hl 0 rfl) ?_
  refine lv_iload_n hx hb dL_gap_3 rfl (lv_at hl 1 rfl) ?_
  refine lv_iload_n hx hb dL_gap_4 rfl (lv_at hl 2 rfl) ?_
  exact wr_one (la := 2) (pg := 17) (As := [.int p0, .int p1]) xX cwL_gap (c_X11_gap hst h) rfl rfl ⟨Nat.le_of_ble_eq_true rfl, Nat.le_of_ble_eq_true rfl⟩ [1, 2] rfl (va_recv K.k I.1 (ci := 9) (q0 := 1) rfl rfl) rfl hl.1 K hr hk hz I ⟨Nat.le_of_ble_eq_true rfl, Nat.le_of_ble_eq_true rfl⟩ htb (by decide) (by decide) kL1044 nL1056 dL_gap_5 dL_gap_8 dL_gap_9 dL_gap_10 (by decide) (fun H1 locs1 q Q1 k => lv_astore hx hb dL_gap_13 hl (by decide) rfl (fun ls9 _ => k ls9)) dL_gap_15 dL_gap_16 dL_gap_17 dL_gap_18
theorem cwL_hours : cwd RL 34 yX11_hours cX11_hours 4 (some .int) 1 := ⟨kL1170, kL1171, kL1172, kL165, kL1173, by decide, by decide, by decide +kernel⟩
set_option maxRecDepth 100000 in
theorem c_L_hours {l : Launch} {κ : EK} {D : va_G} {G : XG} {aB : Nat → Nat} {aTp : Nat} {aSn : Nat} {aNw : Nat → Nat} {aLa : Nat → Nat} {aSt : Nat → Nat} {aKp : Nat → Nat} {aKl : Nat → Nat} {aPr : Nat → Nat} {aPs : Nat → Nat} {aLr : Nat → Nat} {aLl : Nat → Nat} {aOd : Nat → Nat} {aLn : Nat → Nat} {aSe : Nat → Nat} {aCu : Nat → Nat} {aPa : Nat → Nat → Nat} {sz : Nat} {B : OS} {tp : AT} {sn : AT} {Nw : OS} {La : OS} {St : OS} {Kp : OS} {Kl : OS} {Pr : OX} {Ps : OS} {Lr : OX} {Ll : OS} {Od : OS} {Ln : OS} {Se : OS} {Cu : OS} {Pa : PS} {p0 : Int32} {cO : ClassId} {aO : Nat} {f : Nat → Int64} {post : Int32 → XS × (Nat → Int64) → Prop} (hst : l.stackTraces = false) (h : m_X11_hours (fun E x => E = "java/lang/IllegalArgumentException" ∧ post 1 (x, f)) B tp sn Nw La St Kp Kl Pr Ps Lr Ll Od Ln Se Cu Pa p0 (fun r x => post 0 (x, vp_updL f 0 r.toInt64))) : vx_Met l yL_hours (bH yL_hours cL_hours 4 (some .int) [(0, 9, 12, 13)]) (rmX 8 1) (fP (eW κ) (dOw aO (dX aB aTp aSn aNw aLa aSt aKp aKl aPr aPs aLr aLl aOd aLn aSe aCu aPa)) D (fOw (wX G aB aTp aSn aNw aLa aSt aKp aKl aPr aPs aLr aLl aOd aLn aSe aCu aPa) cO aO) ((cO, .long) :: xT G) sz ((B, tp, sn, Nw, La, St, Kp, Kl, Pr, Ps, Lr, Ll, Od, Ln, Se, Cu, Pa), f) [.ref (aB 0), .int p0, .ref aO]) (va_Qi post (fB D (fOw (wX G aB aTp aSn aNw aLa aSt aKp aKl aPr aPs aLr aLl aOd aLn aSe aCu aPa) cO aO) ((cO, .long) :: xT G) (dOw aO (dX aB aTp aSn aNw aLa aSt aKp aKl aPr aPs aLr aLl aOd aLn aSe aCu aPa)) sz) (fA (dOw aO (dX aB aTp aSn aNw aLa aSt aKp aKl aPr aPs aLr aLl aOd aLn aSe aCu aPa)) sz)) (fun _ _ _ => False) 1 6 (fA (dOw aO (dX aB aTp aSn aNw aLa aSt aKp aKl aPr aPs aLr aLl aOd aLn aSe aCu aPa)) sz) := by
  refine fh_enter (fOw_ax xX).ad (by decide) (Nat.le_of_ble_eq_true rfl) ?_
  intro p e s m below meth c hz K9 hr hk htb I ls hl
  have K := K9.v
  have hx := K.x
  have hb := K.b
  have hl : lv_has ls 4 [(0, .ref (aB 0)), (1, .int p0), (2, .ref aO)] := hl
  refine lv_aload_n hx hb dL_hours_0 rfl (lv_at hl 2 rfl) ?_
  refine lv_iconst hx hb dL_hours_1 rfl ?_
  refine lv_aload_n hx hb dL_hours_2 rfl (lv_at hl 0 rfl) ?_
  refine lv_iload_n hx hb dL_hours_3 rfl (lv_at hl 1 rfl) ?_
  exact wr_one (la := 1) (pg := 15) (As := [.int p0]) xX cwL_hours (c_X11_hours hst h) rfl rfl ⟨Nat.le_of_ble_eq_true rfl, Nat.le_of_ble_eq_true rfl⟩ [1, 2] rfl (va_recv K.k I.1 (ci := 9) (q0 := 1) rfl rfl) rfl hl.1 K hr hk hz I ⟨Nat.le_of_ble_eq_true rfl, Nat.le_of_ble_eq_true rfl⟩ htb (by decide) (by decide) kL708 nL943 dL_hours_4 dL_hours_7 dL_hours_8 dL_hours_9 (by decide) (fun H1 locs1 q Q1 k => lv_astore_n hx hb dL_hours_12 rfl hl (by decide) rfl (fun ls9 _ => k ls9)) dL_hours_13 dL_hours_14 dL_hours_15 dL_hours_16
theorem cwL_out : cwd RL 38 yX11_out cX11_out 2 (some .int) 1 := ⟨kL1191, kL1192, kL1193, kL165, kL1194, by decide, by decide, by decide +kernel⟩
set_option maxRecDepth 100000 in
theorem c_L_out {l : Launch} {κ : EK} {D : va_G} {G : XG} {aB : Nat → Nat} {aTp : Nat} {aSn : Nat} {aNw : Nat → Nat} {aLa : Nat → Nat} {aSt : Nat → Nat} {aKp : Nat → Nat} {aKl : Nat → Nat} {aPr : Nat → Nat} {aPs : Nat → Nat} {aLr : Nat → Nat} {aLl : Nat → Nat} {aOd : Nat → Nat} {aLn : Nat → Nat} {aSe : Nat → Nat} {aCu : Nat → Nat} {aPa : Nat → Nat → Nat} {sz : Nat} {B : OS} {tp : AT} {sn : AT} {Nw : OS} {La : OS} {St : OS} {Kp : OS} {Kl : OS} {Pr : OX} {Ps : OS} {Lr : OX} {Ll : OS} {Od : OS} {Ln : OS} {Se : OS} {Cu : OS} {Pa : PS} {p0 : Int32} {cO : ClassId} {aO : Nat} {f : Nat → Int64} {post : Int32 → XS × (Nat → Int64) → Prop} (hst : l.stackTraces = false) (h : m_X11_out (fun E x => (E = "java/lang/IllegalArgumentException" ∧ post 1 (x, f)) ∨ (E = "java/lang/IllegalStateException" ∧ post 2 (x, f))) B tp sn Nw La St Kp Kl Pr Ps Lr Ll Od Ln Se Cu Pa p0 (fun r x => post 0 (x, vp_updL f 0 r.toInt64))) : vx_Met l yL_out (bH yL_out cL_out 4 (some .int) [(0, 9, 12, 13), (0, 9, 15, 41)]) (rmX 8 2) (fP (eW κ) (dOw aO (dX aB aTp aSn aNw aLa aSt aKp aKl aPr aPs aLr aLl aOd aLn aSe aCu aPa)) D (fOw (wX G aB aTp aSn aNw aLa aSt aKp aKl aPr aPs aLr aLl aOd aLn aSe aCu aPa) cO aO) ((cO, .long) :: xT G) sz ((B, tp, sn, Nw, La, St, Kp, Kl, Pr, Ps, Lr, Ll, Od, Ln, Se, Cu, Pa), f) [.ref (aB 0), .int p0, .ref aO]) (va_Qi post (fB D (fOw (wX G aB aTp aSn aNw aLa aSt aKp aKl aPr aPs aLr aLl aOd aLn aSe aCu aPa) cO aO) ((cO, .long) :: xT G) (dOw aO (dX aB aTp aSn aNw aLa aSt aKp aKl aPr aPs aLr aLl aOd aLn aSe aCu aPa)) sz) (fA (dOw aO (dX aB aTp aSn aNw aLa aSt aKp aKl aPr aPs aLr aLl aOd aLn aSe aCu aPa)) sz)) (fun _ _ _ => False) 2 12 (fA (dOw aO (dX aB aTp aSn aNw aLa aSt aKp aKl aPr aPs aLr aLl aOd aLn aSe aCu aPa)) sz) := by
  refine fh_enter (fOw_ax xX).ad (by decide) (Nat.le_of_ble_eq_true rfl) ?_
  intro p e s m below meth c hz K9 hr hk htb I ls hl
  have K := K9.v
  have hx := K.x
  have hb := K.b
  have hl : lv_has ls 4 [(0, .ref (aB 0)), (1, .int p0), (2, .ref aO)] := hl
  refine lv_aload_n hx hb dL_out_0 rfl (lv_at hl 2 rfl) ?_
  refine lv_iconst hx hb dL_out_1 rfl ?_
  refine lv_aload_n hx hb dL_out_2 rfl (lv_at hl 0 rfl) ?_
  refine lv_iload_n hx hb dL_out_3 rfl (lv_at hl 1 rfl) ?_
  exact wr_two (la := 1) (la2 := 1) (pg := 18) (As := [.int p0]) xX cwL_out (c_X11_out hst h) rfl rfl ⟨Nat.le_of_ble_eq_true rfl, Nat.le_of_ble_eq_true rfl⟩ [1, 2] rfl (va_recv K.k I.1 (ci := 9) (q0 := 1) rfl rfl) rfl hl.1 K hr hk hz I ⟨Nat.le_of_ble_eq_true rfl, Nat.le_of_ble_eq_true rfl⟩ htb (by decide) (by decide) kL708 nL943 (by decide) kL1190 nL1197 (K9.nc (by decide)) dL_out_4 dL_out_7 dL_out_8 dL_out_9 (by decide) (fun H1 locs1 q Q1 k => lv_astore_n hx hb dL_out_12 rfl hl (by decide) rfl (fun ls9 _ => k ls9)) dL_out_13 dL_out_14 (fun H1 locs1 q Q1 k => lv_astore_n hx hb dL_out_15 rfl hl (by decide) rfl (fun ls9 _ => k ls9)) dL_out_16 dL_out_17 dL_out_18 dL_out_19
theorem cwL_pace : cwd RL 43 yX11_pace cX11_pace 4 (some .int) 2 := ⟨kL1215, kL1216, kL1217, kL165, kL1218, by decide, by decide, by decide +kernel⟩
set_option maxRecDepth 100000 in
theorem c_L_pace {l : Launch} {κ : EK} {D : va_G} {G : XG} {aB : Nat → Nat} {aTp : Nat} {aSn : Nat} {aNw : Nat → Nat} {aLa : Nat → Nat} {aSt : Nat → Nat} {aKp : Nat → Nat} {aKl : Nat → Nat} {aPr : Nat → Nat} {aPs : Nat → Nat} {aLr : Nat → Nat} {aLl : Nat → Nat} {aOd : Nat → Nat} {aLn : Nat → Nat} {aSe : Nat → Nat} {aCu : Nat → Nat} {aPa : Nat → Nat → Nat} {sz : Nat} {B : OS} {tp : AT} {sn : AT} {Nw : OS} {La : OS} {St : OS} {Kp : OS} {Kl : OS} {Pr : OX} {Ps : OS} {Lr : OX} {Ll : OS} {Od : OS} {Ln : OS} {Se : OS} {Cu : OS} {Pa : PS} {p0 : Int32} {p1 : Int32} {cO : ClassId} {aO : Nat} {f : Nat → Int64} {post : Int32 → XS × (Nat → Int64) → Prop} (hst : l.stackTraces = false) (h : m_X11_pace (fun E x => (E = "java/lang/IndexOutOfBoundsException" ∧ post 1 (x, f)) ∨ (E = "java/lang/IllegalArgumentException" ∧ post 2 (x, f))) B tp sn Nw La St Kp Kl Pr Ps Lr Ll Od Ln Se Cu Pa p0 p1 (fun r x => post 0 (x, vp_updL f 0 r.toInt64))) : vx_Met l yL_pace (bH yL_pace cL_pace 5 (some .int) [(0, 10, 13, 24), (0, 10, 17, 13)]) (rmX 8 2) (fP (eW κ) (dOw aO (dX aB aTp aSn aNw aLa aSt aKp aKl aPr aPs aLr aLl aOd aLn aSe aCu aPa)) D (fOw (wX G aB aTp aSn aNw aLa aSt aKp aKl aPr aPs aLr aLl aOd aLn aSe aCu aPa) cO aO) ((cO, .long) :: xT G) sz ((B, tp, sn, Nw, La, St, Kp, Kl, Pr, Ps, Lr, Ll, Od, Ln, Se, Cu, Pa), f) [.ref (aB 0), .int p0, .int p1, .ref aO]) (va_Qi post (fB D (fOw (wX G aB aTp aSn aNw aLa aSt aKp aKl aPr aPs aLr aLl aOd aLn aSe aCu aPa) cO aO) ((cO, .long) :: xT G) (dOw aO (dX aB aTp aSn aNw aLa aSt aKp aKl aPr aPs aLr aLl aOd aLn aSe aCu aPa)) sz) (fA (dOw aO (dX aB aTp aSn aNw aLa aSt aKp aKl aPr aPs aLr aLl aOd aLn aSe aCu aPa)) sz)) (fun _ _ _ => False) 2 12 (fA (dOw aO (dX aB aTp aSn aNw aLa aSt aKp aKl aPr aPs aLr aLl aOd aLn aSe aCu aPa)) sz) := by
  refine fh_enter (fOw_ax xX).ad (by decide) (Nat.le_of_ble_eq_true rfl) ?_
  intro p e s m below meth c hz K9 hr hk htb I ls hl
  have K := K9.v
  have hx := K.x
  have hb := K.b
  have hl : lv_has ls 5 [(0, .ref (aB 0)), (1, .int p0), (2, .int p1), (3, .ref aO)] := hl
  refine lv_aload_n hx hb dL_pace_0 rfl (lv_at hl 3 rfl) ?_
  refine lv_iconst hx hb dL_pace_1 rfl ?_
  refine lv_aload_n hx hb dL_pace_2 rfl (lv_at hl 0 rfl) ?_
  refine lv_iload_n hx hb dL_pace_3 rfl (lv_at hl 1 rfl) ?_
  refine lv_iload_n hx hb dL_pace_4 rfl (lv_at hl 2 rfl) ?_
  exact wr_two (la := 2) (la2 := 2) (pg := 21) (As := [.int p0, .int p1]) xX cwL_pace (c_X11_pace hst h) rfl rfl ⟨Nat.le_of_ble_eq_true rfl, Nat.le_of_ble_eq_true rfl⟩ [1, 2] rfl (va_recv K.k I.1 (ci := 9) (q0 := 1) rfl rfl) rfl hl.1 K hr hk hz I ⟨Nat.le_of_ble_eq_true rfl, Nat.le_of_ble_eq_true rfl⟩ htb (by decide) (by decide) kL1044 nL1056 (by decide) kL708 nL943 (K9.nc (by decide)) dL_pace_5 dL_pace_8 dL_pace_9 dL_pace_10 (by decide) (fun H1 locs1 q Q1 k => lv_astore hx hb dL_pace_13 hl (by decide) rfl (fun ls9 _ => k ls9)) dL_pace_15 dL_pace_16 (fun H1 locs1 q Q1 k => lv_astore hx hb dL_pace_17 hl (by decide) rfl (fun ls9 _ => k ls9)) dL_pace_19 dL_pace_20 dL_pace_21 dL_pace_22
theorem cwL_move : cwd RL 54 yX11_move cX11_move 4 (some .int) 2 := ⟨kL1241, kL1242, kL1243, kL165, kL1244, by decide, by decide, by decide +kernel⟩
set_option maxRecDepth 100000 in
theorem c_L_move {l : Launch} {κ : EK} {D : va_G} {G : XG} {aB : Nat → Nat} {aTp : Nat} {aSn : Nat} {aNw : Nat → Nat} {aLa : Nat → Nat} {aSt : Nat → Nat} {aKp : Nat → Nat} {aKl : Nat → Nat} {aPr : Nat → Nat} {aPs : Nat → Nat} {aLr : Nat → Nat} {aLl : Nat → Nat} {aOd : Nat → Nat} {aLn : Nat → Nat} {aSe : Nat → Nat} {aCu : Nat → Nat} {aPa : Nat → Nat → Nat} {sz : Nat} {B : OS} {tp : AT} {sn : AT} {Nw : OS} {La : OS} {St : OS} {Kp : OS} {Kl : OS} {Pr : OX} {Ps : OS} {Lr : OX} {Ll : OS} {Od : OS} {Ln : OS} {Se : OS} {Cu : OS} {Pa : PS} {p0 : Int32} {p1 : Int32} {cO : ClassId} {aO : Nat} {f : Nat → Int64} {post : Int32 → XS × (Nat → Int64) → Prop} (hst : l.stackTraces = false) (h : m_X11_move (fun E x => E = "java/lang/IndexOutOfBoundsException" ∧ post 1 (x, f)) B tp sn Nw La St Kp Kl Pr Ps Lr Ll Od Ln Se Cu Pa p0 p1 (fun r x => post 0 (x, vp_updL f 0 r.toInt64))) : vx_Met l yL_move (bH yL_move cL_move 5 (some .int) [(0, 10, 13, 24)]) (rmX 8 2) (fP (eW κ) (dOw aO (dX aB aTp aSn aNw aLa aSt aKp aKl aPr aPs aLr aLl aOd aLn aSe aCu aPa)) D (fOw (wX G aB aTp aSn aNw aLa aSt aKp aKl aPr aPs aLr aLl aOd aLn aSe aCu aPa) cO aO) ((cO, .long) :: xT G) sz ((B, tp, sn, Nw, La, St, Kp, Kl, Pr, Ps, Lr, Ll, Od, Ln, Se, Cu, Pa), f) [.ref (aB 0), .int p0, .int p1, .ref aO]) (va_Qi post (fB D (fOw (wX G aB aTp aSn aNw aLa aSt aKp aKl aPr aPs aLr aLl aOd aLn aSe aCu aPa) cO aO) ((cO, .long) :: xT G) (dOw aO (dX aB aTp aSn aNw aLa aSt aKp aKl aPr aPs aLr aLl aOd aLn aSe aCu aPa)) sz) (fA (dOw aO (dX aB aTp aSn aNw aLa aSt aKp aKl aPr aPs aLr aLl aOd aLn aSe aCu aPa)) sz)) (fun _ _ _ => False) 2 12 (fA (dOw aO (dX aB aTp aSn aNw aLa aSt aKp aKl aPr aPs aLr aLl aOd aLn aSe aCu aPa)) sz) := by
  refine fh_enter (fOw_ax xX).ad (by decide) (Nat.le_of_ble_eq_true rfl) ?_
  intro p e s m below meth c hz K9 hr hk htb I ls hl
  have K := K9.v
  have hx := K.x
  have hb := K.b
  have hl : lv_has ls 5 [(0, .ref (aB 0)), (1, .int p0), (2, .int p1), (3, .ref aO)] := hl
  refine lv_aload_n hx hb dL_move_0 rfl (lv_at hl 3 rfl) ?_
  refine lv_iconst hx hb dL_move_1 rfl ?_
  refine lv_aload_n hx hb dL_move_2 rfl (lv_at hl 0 rfl) ?_
  refine lv_iload_n hx hb dL_move_3 rfl (lv_at hl 1 rfl) ?_
  refine lv_iload_n hx hb dL_move_4 rfl (lv_at hl 2 rfl) ?_
  exact wr_one (la := 2) (pg := 17) (As := [.int p0, .int p1]) xX cwL_move (c_X11_move hst h) rfl rfl ⟨Nat.le_of_ble_eq_true rfl, Nat.le_of_ble_eq_true rfl⟩ [1, 2] rfl (va_recv K.k I.1 (ci := 9) (q0 := 1) rfl rfl) rfl hl.1 K hr hk hz I ⟨Nat.le_of_ble_eq_true rfl, Nat.le_of_ble_eq_true rfl⟩ htb (by decide) (by decide) kL1044 nL1056 dL_move_5 dL_move_8 dL_move_9 dL_move_10 (by decide) (fun H1 locs1 q Q1 k => lv_astore hx hb dL_move_13 hl (by decide) rfl (fun ls9 _ => k ls9)) dL_move_15 dL_move_16 dL_move_17 dL_move_18
theorem cwL_lad : cwd RL 57 yX11_lad cX11_lad 2 (some .int) 1 := ⟨kL1248, kL1249, kL1250, kL165, kL1251, by decide, by decide, by decide +kernel⟩
set_option maxRecDepth 100000 in
theorem c_L_lad {l : Launch} {κ : EK} {D : va_G} {G : XG} {aB : Nat → Nat} {aTp : Nat} {aSn : Nat} {aNw : Nat → Nat} {aLa : Nat → Nat} {aSt : Nat → Nat} {aKp : Nat → Nat} {aKl : Nat → Nat} {aPr : Nat → Nat} {aPs : Nat → Nat} {aLr : Nat → Nat} {aLl : Nat → Nat} {aOd : Nat → Nat} {aLn : Nat → Nat} {aSe : Nat → Nat} {aCu : Nat → Nat} {aPa : Nat → Nat → Nat} {sz : Nat} {B : OS} {tp : AT} {sn : AT} {Nw : OS} {La : OS} {St : OS} {Kp : OS} {Kl : OS} {Pr : OX} {Ps : OS} {Lr : OX} {Ll : OS} {Od : OS} {Ln : OS} {Se : OS} {Cu : OS} {Pa : PS} {p0 : Int32} {cO : ClassId} {aO : Nat} {f : Nat → Int64} {post : Int32 → XS × (Nat → Int64) → Prop} (hst : l.stackTraces = false) (h : m_X11_lad (fun E x => E = "java/lang/IndexOutOfBoundsException" ∧ post 1 (x, f)) B tp sn Nw La St Kp Kl Pr Ps Lr Ll Od Ln Se Cu Pa p0 (fun r x => post 0 (x, vp_updL f 0 r.toInt64))) : vx_Met l yL_lad (bH yL_lad cL_lad 4 (some .int) [(0, 9, 12, 24)]) (rmX 8 1) (fP (eW κ) (dOw aO (dX aB aTp aSn aNw aLa aSt aKp aKl aPr aPs aLr aLl aOd aLn aSe aCu aPa)) D (fOw (wX G aB aTp aSn aNw aLa aSt aKp aKl aPr aPs aLr aLl aOd aLn aSe aCu aPa) cO aO) ((cO, .long) :: xT G) sz ((B, tp, sn, Nw, La, St, Kp, Kl, Pr, Ps, Lr, Ll, Od, Ln, Se, Cu, Pa), f) [.ref (aB 0), .int p0, .ref aO]) (va_Qi post (fB D (fOw (wX G aB aTp aSn aNw aLa aSt aKp aKl aPr aPs aLr aLl aOd aLn aSe aCu aPa) cO aO) ((cO, .long) :: xT G) (dOw aO (dX aB aTp aSn aNw aLa aSt aKp aKl aPr aPs aLr aLl aOd aLn aSe aCu aPa)) sz) (fA (dOw aO (dX aB aTp aSn aNw aLa aSt aKp aKl aPr aPs aLr aLl aOd aLn aSe aCu aPa)) sz)) (fun _ _ _ => False) 1 6 (fA (dOw aO (dX aB aTp aSn aNw aLa aSt aKp aKl aPr aPs aLr aLl aOd aLn aSe aCu aPa)) sz) := by
  refine fh_enter (fOw_ax xX).ad (by decide) (Nat.le_of_ble_eq_true rfl) ?_
  intro p e s m below meth c hz K9 hr hk htb I ls hl
  have K := K9.v
  have hx := K.x
  have hb := K.b
  have hl : lv_has ls 4 [(0, .ref (aB 0)), (1, .int p0), (2, .ref aO)] := hl
  refine lv_aload_n hx hb dL_lad_0 rfl (lv_at hl 2 rfl) ?_
  refine lv_iconst hx hb dL_lad_1 rfl ?_
  refine lv_aload_n hx hb dL_lad_2 rfl (lv_at hl 0 rfl) ?_
  refine lv_iload_n hx hb dL_lad_3 rfl (lv_at hl 1 rfl) ?_
  exact wr_one (la := 1) (pg := 15) (As := [.int p0]) xX cwL_lad (c_X11_lad hst h) rfl rfl ⟨Nat.le_of_ble_eq_true rfl, Nat.le_of_ble_eq_true rfl⟩ [1, 2] rfl (va_recv K.k I.1 (ci := 9) (q0 := 1) rfl rfl) rfl hl.1 K hr hk hz I ⟨Nat.le_of_ble_eq_true rfl, Nat.le_of_ble_eq_true rfl⟩ htb (by decide) (by decide) kL1044 nL1056 dL_lad_4 dL_lad_7 dL_lad_8 dL_lad_9 (by decide) (fun H1 locs1 q Q1 k => lv_astore_n hx hb dL_lad_12 rfl hl (by decide) rfl (fun ls9 _ => k ls9)) dL_lad_13 dL_lad_14 dL_lad_15 dL_lad_16
theorem cwL_where : cwd RL 60 yX11_where cX11_where 3 (some .int) 2 := ⟨kL1256, kL1257, kL1258, kL165, kL1259, by decide, by decide, by decide +kernel⟩
set_option maxRecDepth 100000 in
theorem c_L_where {l : Launch} {κ : EK} {D : va_G} {G : XG} {aB : Nat → Nat} {aTp : Nat} {aSn : Nat} {aNw : Nat → Nat} {aLa : Nat → Nat} {aSt : Nat → Nat} {aKp : Nat → Nat} {aKl : Nat → Nat} {aPr : Nat → Nat} {aPs : Nat → Nat} {aLr : Nat → Nat} {aLl : Nat → Nat} {aOd : Nat → Nat} {aLn : Nat → Nat} {aSe : Nat → Nat} {aCu : Nat → Nat} {aPa : Nat → Nat → Nat} {sz : Nat} {B : OS} {tp : AT} {sn : AT} {Nw : OS} {La : OS} {St : OS} {Kp : OS} {Kl : OS} {Pr : OX} {Ps : OS} {Lr : OX} {Ll : OS} {Od : OS} {Ln : OS} {Se : OS} {Cu : OS} {Pa : PS} {p0 : Int32} {p1 : Int32} {cO : ClassId} {aO : Nat} {f : Nat → Int64} {post : Int32 → XS × (Nat → Int64) → Prop} (hst : l.stackTraces = false) (h : m_X11_where (fun E x => (E = "java/lang/IndexOutOfBoundsException" ∧ post 1 (x, f)) ∨ (E = "java/lang/IllegalArgumentException" ∧ post 2 (x, f))) B tp sn Nw La St Kp Kl Pr Ps Lr Ll Od Ln Se Cu Pa p0 p1 (fun r x => post 0 (x, vp_updL f 0 r.toInt64))) : vx_Met l yL_where (bH yL_where cL_where 5 (some .int) [(0, 10, 13, 24), (0, 10, 17, 13)]) (rmX 8 2) (fP (eW κ) (dOw aO (dX aB aTp aSn aNw aLa aSt aKp aKl aPr aPs aLr aLl aOd aLn aSe aCu aPa)) D (fOw (wX G aB aTp aSn aNw aLa aSt aKp aKl aPr aPs aLr aLl aOd aLn aSe aCu aPa) cO aO) ((cO, .long) :: xT G) sz ((B, tp, sn, Nw, La, St, Kp, Kl, Pr, Ps, Lr, Ll, Od, Ln, Se, Cu, Pa), f) [.ref (aB 0), .int p0, .int p1, .ref aO]) (va_Qi post (fB D (fOw (wX G aB aTp aSn aNw aLa aSt aKp aKl aPr aPs aLr aLl aOd aLn aSe aCu aPa) cO aO) ((cO, .long) :: xT G) (dOw aO (dX aB aTp aSn aNw aLa aSt aKp aKl aPr aPs aLr aLl aOd aLn aSe aCu aPa)) sz) (fA (dOw aO (dX aB aTp aSn aNw aLa aSt aKp aKl aPr aPs aLr aLl aOd aLn aSe aCu aPa)) sz)) (fun _ _ _ => False) 2 12 (fA (dOw aO (dX aB aTp aSn aNw aLa aSt aKp aKl aPr aPs aLr aLl aOd aLn aSe aCu aPa)) sz) := by
  refine fh_enter (fOw_ax xX).ad (by decide) (Nat.le_of_ble_eq_true rfl) ?_
  intro p e s m below meth c hz K9 hr hk htb I ls hl
  have K := K9.v
  have hx := K.x
  have hb := K.b
  have hl : lv_has ls 5 [(0, .ref (aB 0)), (1, .int p0), (2, .int p1), (3, .ref aO)] := hl
  refine lv_aload_n hx hb dL_where_0 rfl (lv_at hl 3 rfl) ?_
  refine lv_iconst hx hb dL_where_1 rfl ?_
  refine lv_aload_n hx hb dL_where_2 rfl (lv_at hl 0 rfl) ?_
  refine lv_iload_n hx hb dL_where_3 rfl (lv_at hl 1 rfl) ?_
  refine lv_iload_n hx hb dL_where_4 rfl (lv_at hl 2 rfl) ?_
  exact wr_two (la := 2) (la2 := 2) (pg := 21) (As := [.int p0, .int p1]) xX cwL_where (c_X11_where hst h) rfl rfl ⟨Nat.le_of_ble_eq_true rfl, Nat.le_of_ble_eq_true rfl⟩ [1, 2] rfl (va_recv K.k I.1 (ci := 9) (q0 := 1) rfl rfl) rfl hl.1 K hr hk hz I ⟨Nat.le_of_ble_eq_true rfl, Nat.le_of_ble_eq_true rfl⟩ htb (by decide) (by decide) kL1044 nL1056 (by decide) kL708 nL943 (K9.nc (by decide)) dL_where_5 dL_where_8 dL_where_9 dL_where_10 (by decide) (fun H1 locs1 q Q1 k => lv_astore hx hb dL_where_13 hl (by decide) rfl (fun ls9 _ => k ls9)) dL_where_15 dL_where_16 (fun H1 locs1 q Q1 k => lv_astore hx hb dL_where_17 hl (by decide) rfl (fun ls9 _ => k ls9)) dL_where_19 dL_where_20 dL_where_21 dL_where_22
theorem cwL_up : cwd RL 63 yX11_up cX11_up 4 (some .int) 2 := ⟨kL1267, kL1268, kL1269, kL165, kL1270, by decide, by decide, by decide +kernel⟩
set_option maxRecDepth 100000 in
theorem c_L_up {l : Launch} {κ : EK} {D : va_G} {G : XG} {aB : Nat → Nat} {aTp : Nat} {aSn : Nat} {aNw : Nat → Nat} {aLa : Nat → Nat} {aSt : Nat → Nat} {aKp : Nat → Nat} {aKl : Nat → Nat} {aPr : Nat → Nat} {aPs : Nat → Nat} {aLr : Nat → Nat} {aLl : Nat → Nat} {aOd : Nat → Nat} {aLn : Nat → Nat} {aSe : Nat → Nat} {aCu : Nat → Nat} {aPa : Nat → Nat → Nat} {sz : Nat} {B : OS} {tp : AT} {sn : AT} {Nw : OS} {La : OS} {St : OS} {Kp : OS} {Kl : OS} {Pr : OX} {Ps : OS} {Lr : OX} {Ll : OS} {Od : OS} {Ln : OS} {Se : OS} {Cu : OS} {Pa : PS} {p0 : Int32} {p1 : Int32} {cO : ClassId} {aO : Nat} {f : Nat → Int64} {post : Int32 → XS × (Nat → Int64) → Prop} (hst : l.stackTraces = false) (h : m_X11_up (fun E x => (E = "java/lang/IndexOutOfBoundsException" ∧ post 1 (x, f)) ∨ (E = "java/lang/IllegalArgumentException" ∧ post 2 (x, f))) B tp sn Nw La St Kp Kl Pr Ps Lr Ll Od Ln Se Cu Pa p0 p1 (fun r x => post 0 (x, vp_updL f 0 r.toInt64))) : vx_Met l yL_up (bH yL_up cL_up 5 (some .int) [(0, 10, 13, 24), (0, 10, 17, 13)]) (rmX 9 3) (fP (eW κ) (dOw aO (dX aB aTp aSn aNw aLa aSt aKp aKl aPr aPs aLr aLl aOd aLn aSe aCu aPa)) D (fOw (wX G aB aTp aSn aNw aLa aSt aKp aKl aPr aPs aLr aLl aOd aLn aSe aCu aPa) cO aO) ((cO, .long) :: xT G) sz ((B, tp, sn, Nw, La, St, Kp, Kl, Pr, Ps, Lr, Ll, Od, Ln, Se, Cu, Pa), f) [.ref (aB 0), .int p0, .int p1, .ref aO]) (va_Qi post (fB D (fOw (wX G aB aTp aSn aNw aLa aSt aKp aKl aPr aPs aLr aLl aOd aLn aSe aCu aPa) cO aO) ((cO, .long) :: xT G) (dOw aO (dX aB aTp aSn aNw aLa aSt aKp aKl aPr aPs aLr aLl aOd aLn aSe aCu aPa)) sz) (fA (dOw aO (dX aB aTp aSn aNw aLa aSt aKp aKl aPr aPs aLr aLl aOd aLn aSe aCu aPa)) sz)) (fun _ _ _ => False) 3 18 (fA (dOw aO (dX aB aTp aSn aNw aLa aSt aKp aKl aPr aPs aLr aLl aOd aLn aSe aCu aPa)) sz) := by
  refine fh_enter (fOw_ax xX).ad (by decide) (Nat.le_of_ble_eq_true rfl) ?_
  intro p e s m below meth c hz K9 hr hk htb I ls hl
  have K := K9.v
  have hx := K.x
  have hb := K.b
  have hl : lv_has ls 5 [(0, .ref (aB 0)), (1, .int p0), (2, .int p1), (3, .ref aO)] := hl
  refine lv_aload_n hx hb dL_up_0 rfl (lv_at hl 3 rfl) ?_
  refine lv_iconst hx hb dL_up_1 rfl ?_
  refine lv_aload_n hx hb dL_up_2 rfl (lv_at hl 0 rfl) ?_
  refine lv_iload_n hx hb dL_up_3 rfl (lv_at hl 1 rfl) ?_
  refine lv_iload_n hx hb dL_up_4 rfl (lv_at hl 2 rfl) ?_
  exact wr_two (la := 2) (la2 := 2) (pg := 21) (As := [.int p0, .int p1]) xX cwL_up (c_X11_up hst h) rfl rfl ⟨Nat.le_of_ble_eq_true rfl, Nat.le_of_ble_eq_true rfl⟩ [1, 2] rfl (va_recv K.k I.1 (ci := 9) (q0 := 1) rfl rfl) rfl hl.1 K hr hk hz I ⟨Nat.le_of_ble_eq_true rfl, Nat.le_of_ble_eq_true rfl⟩ htb (by decide) (by decide) kL1044 nL1056 (by decide) kL708 nL943 (K9.nc (by decide)) dL_up_5 dL_up_8 dL_up_9 dL_up_10 (by decide) (fun H1 locs1 q Q1 k => lv_astore hx hb dL_up_13 hl (by decide) rfl (fun ls9 _ => k ls9)) dL_up_15 dL_up_16 (fun H1 locs1 q Q1 k => lv_astore hx hb dL_up_17 hl (by decide) rfl (fun ls9 _ => k ls9)) dL_up_19 dL_up_20 dL_up_21 dL_up_22
theorem cwL_circle : cwd RL 66 yX11_circle cX11_circle 3 (some .int) 2 := ⟨kL1274, kL1275, kL1276, kL165, kL1277, by decide, by decide, by decide +kernel⟩
set_option maxRecDepth 100000 in
theorem c_L_circle {l : Launch} {κ : EK} {D : va_G} {G : XG} {aB : Nat → Nat} {aTp : Nat} {aSn : Nat} {aNw : Nat → Nat} {aLa : Nat → Nat} {aSt : Nat → Nat} {aKp : Nat → Nat} {aKl : Nat → Nat} {aPr : Nat → Nat} {aPs : Nat → Nat} {aLr : Nat → Nat} {aLl : Nat → Nat} {aOd : Nat → Nat} {aLn : Nat → Nat} {aSe : Nat → Nat} {aCu : Nat → Nat} {aPa : Nat → Nat → Nat} {sz : Nat} {B : OS} {tp : AT} {sn : AT} {Nw : OS} {La : OS} {St : OS} {Kp : OS} {Kl : OS} {Pr : OX} {Ps : OS} {Lr : OX} {Ll : OS} {Od : OS} {Ln : OS} {Se : OS} {Cu : OS} {Pa : PS} {p0 : Int32} {p1 : Int32} {cO : ClassId} {aO : Nat} {f : Nat → Int64} {post : Int32 → XS × (Nat → Int64) → Prop} (hst : l.stackTraces = false) (h : m_X11_circle (fun E x => (E = "java/lang/IndexOutOfBoundsException" ∧ post 1 (x, f)) ∨ (E = "java/lang/IllegalArgumentException" ∧ post 2 (x, f))) B tp sn Nw La St Kp Kl Pr Ps Lr Ll Od Ln Se Cu Pa p0 p1 (fun r x => post 0 (x, vp_updL f 0 r.toInt64))) : vx_Met l yL_circle (bH yL_circle cL_circle 5 (some .int) [(0, 10, 13, 24), (0, 10, 17, 13)]) (rmX 8 2) (fP (eW κ) (dOw aO (dX aB aTp aSn aNw aLa aSt aKp aKl aPr aPs aLr aLl aOd aLn aSe aCu aPa)) D (fOw (wX G aB aTp aSn aNw aLa aSt aKp aKl aPr aPs aLr aLl aOd aLn aSe aCu aPa) cO aO) ((cO, .long) :: xT G) sz ((B, tp, sn, Nw, La, St, Kp, Kl, Pr, Ps, Lr, Ll, Od, Ln, Se, Cu, Pa), f) [.ref (aB 0), .int p0, .int p1, .ref aO]) (va_Qi post (fB D (fOw (wX G aB aTp aSn aNw aLa aSt aKp aKl aPr aPs aLr aLl aOd aLn aSe aCu aPa) cO aO) ((cO, .long) :: xT G) (dOw aO (dX aB aTp aSn aNw aLa aSt aKp aKl aPr aPs aLr aLl aOd aLn aSe aCu aPa)) sz) (fA (dOw aO (dX aB aTp aSn aNw aLa aSt aKp aKl aPr aPs aLr aLl aOd aLn aSe aCu aPa)) sz)) (fun _ _ _ => False) 2 12 (fA (dOw aO (dX aB aTp aSn aNw aLa aSt aKp aKl aPr aPs aLr aLl aOd aLn aSe aCu aPa)) sz) := by
  refine fh_enter (fOw_ax xX).ad (by decide) (Nat.le_of_ble_eq_true rfl) ?_
  intro p e s m below meth c hz K9 hr hk htb I ls hl
  have K := K9.v
  have hx := K.x
  have hb := K.b
  have hl : lv_has ls 5 [(0, .ref (aB 0)), (1, .int p0), (2, .int p1), (3, .ref aO)] := hl
  refine lv_aload_n hx hb dL_circle_0 rfl (lv_at hl 3 rfl) ?_
  refine lv_iconst hx hb dL_circle_1 rfl ?_
  refine lv_aload_n hx hb dL_circle_2 rfl (lv_at hl 0 rfl) ?_
  refine lv_iload_n hx hb dL_circle_3 rfl (lv_at hl 1 rfl) ?_
  refine lv_iload_n hx hb dL_circle_4 rfl (lv_at hl 2 rfl) ?_
  exact wr_two (la := 2) (la2 := 2) (pg := 21) (As := [.int p0, .int p1]) xX cwL_circle (c_X11_circle hst h) rfl rfl ⟨Nat.le_of_ble_eq_true rfl, Nat.le_of_ble_eq_true rfl⟩ [1, 2] rfl (va_recv K.k I.1 (ci := 9) (q0 := 1) rfl rfl) rfl hl.1 K hr hk hz I ⟨Nat.le_of_ble_eq_true rfl, Nat.le_of_ble_eq_true rfl⟩ htb (by decide) (by decide) kL1044 nL1056 (by decide) kL708 nL943 (K9.nc (by decide)) dL_circle_5 dL_circle_8 dL_circle_9 dL_circle_10 (by decide) (fun H1 locs1 q Q1 k => lv_astore hx hb dL_circle_13 hl (by decide) rfl (fun ls9 _ => k ls9)) dL_circle_15 dL_circle_16 (fun H1 locs1 q Q1 k => lv_astore hx hb dL_circle_17 hl (by decide) rfl (fun ls9 _ => k ls9)) dL_circle_19 dL_circle_20 dL_circle_21 dL_circle_22
theorem cwL_laps : cwd RL 69 yX11_laps cX11_laps 3 (some .int) 2 := ⟨kL1281, kL1282, kL1283, kL165, kL1284, by decide, by decide, by decide +kernel⟩
set_option maxRecDepth 100000 in
theorem c_L_laps {l : Launch} {κ : EK} {D : va_G} {G : XG} {aB : Nat → Nat} {aTp : Nat} {aSn : Nat} {aNw : Nat → Nat} {aLa : Nat → Nat} {aSt : Nat → Nat} {aKp : Nat → Nat} {aKl : Nat → Nat} {aPr : Nat → Nat} {aPs : Nat → Nat} {aLr : Nat → Nat} {aLl : Nat → Nat} {aOd : Nat → Nat} {aLn : Nat → Nat} {aSe : Nat → Nat} {aCu : Nat → Nat} {aPa : Nat → Nat → Nat} {sz : Nat} {B : OS} {tp : AT} {sn : AT} {Nw : OS} {La : OS} {St : OS} {Kp : OS} {Kl : OS} {Pr : OX} {Ps : OS} {Lr : OX} {Ll : OS} {Od : OS} {Ln : OS} {Se : OS} {Cu : OS} {Pa : PS} {p0 : Int32} {p1 : Int32} {cO : ClassId} {aO : Nat} {f : Nat → Int64} {post : Int32 → XS × (Nat → Int64) → Prop} (hst : l.stackTraces = false) (h : m_X11_laps (fun E x => (E = "java/lang/IndexOutOfBoundsException" ∧ post 1 (x, f)) ∨ (E = "java/lang/IllegalArgumentException" ∧ post 2 (x, f))) B tp sn Nw La St Kp Kl Pr Ps Lr Ll Od Ln Se Cu Pa p0 p1 (fun r x => post 0 (x, vp_updL f 0 r.toInt64))) : vx_Met l yL_laps (bH yL_laps cL_laps 5 (some .int) [(0, 10, 13, 24), (0, 10, 17, 13)]) (rmX 8 2) (fP (eW κ) (dOw aO (dX aB aTp aSn aNw aLa aSt aKp aKl aPr aPs aLr aLl aOd aLn aSe aCu aPa)) D (fOw (wX G aB aTp aSn aNw aLa aSt aKp aKl aPr aPs aLr aLl aOd aLn aSe aCu aPa) cO aO) ((cO, .long) :: xT G) sz ((B, tp, sn, Nw, La, St, Kp, Kl, Pr, Ps, Lr, Ll, Od, Ln, Se, Cu, Pa), f) [.ref (aB 0), .int p0, .int p1, .ref aO]) (va_Qi post (fB D (fOw (wX G aB aTp aSn aNw aLa aSt aKp aKl aPr aPs aLr aLl aOd aLn aSe aCu aPa) cO aO) ((cO, .long) :: xT G) (dOw aO (dX aB aTp aSn aNw aLa aSt aKp aKl aPr aPs aLr aLl aOd aLn aSe aCu aPa)) sz) (fA (dOw aO (dX aB aTp aSn aNw aLa aSt aKp aKl aPr aPs aLr aLl aOd aLn aSe aCu aPa)) sz)) (fun _ _ _ => False) 2 12 (fA (dOw aO (dX aB aTp aSn aNw aLa aSt aKp aKl aPr aPs aLr aLl aOd aLn aSe aCu aPa)) sz) := by
  refine fh_enter (fOw_ax xX).ad (by decide) (Nat.le_of_ble_eq_true rfl) ?_
  intro p e s m below meth c hz K9 hr hk htb I ls hl
  have K := K9.v
  have hx := K.x
  have hb := K.b
  have hl : lv_has ls 5 [(0, .ref (aB 0)), (1, .int p0), (2, .int p1), (3, .ref aO)] := hl
  refine lv_aload_n hx hb dL_laps_0 rfl (lv_at hl 3 rfl) ?_
  refine lv_iconst hx hb dL_laps_1 rfl ?_
  refine lv_aload_n hx hb dL_laps_2 rfl (lv_at hl 0 rfl) ?_
  refine lv_iload_n hx hb dL_laps_3 rfl (lv_at hl 1 rfl) ?_
  refine lv_iload_n hx hb dL_laps_4 rfl (lv_at hl 2 rfl) ?_
  exact wr_two (la := 2) (la2 := 2) (pg := 21) (As := [.int p0, .int p1]) xX cwL_laps (c_X11_laps hst h) rfl rfl ⟨Nat.le_of_ble_eq_true rfl, Nat.le_of_ble_eq_true rfl⟩ [1, 2] rfl (va_recv K.k I.1 (ci := 9) (q0 := 1) rfl rfl) rfl hl.1 K hr hk hz I ⟨Nat.le_of_ble_eq_true rfl, Nat.le_of_ble_eq_true rfl⟩ htb (by decide) (by decide) kL1044 nL1056 (by decide) kL708 nL943 (K9.nc (by decide)) dL_laps_5 dL_laps_8 dL_laps_9 dL_laps_10 (by decide) (fun H1 locs1 q Q1 k => lv_astore hx hb dL_laps_13 hl (by decide) rfl (fun ls9 _ => k ls9)) dL_laps_15 dL_laps_16 (fun H1 locs1 q Q1 k => lv_astore hx hb dL_laps_17 hl (by decide) rfl (fun ls9 _ => k ls9)) dL_laps_19 dL_laps_20 dL_laps_21 dL_laps_22
theorem cwL_alone : cwd RL 72 yX11_alone cX11_alone 4 (some .int) 2 := ⟨kL1288, kL1289, kL1290, kL165, kL1291, by decide, by decide, by decide +kernel⟩
set_option maxRecDepth 100000 in
theorem c_L_alone {l : Launch} {κ : EK} {D : va_G} {G : XG} {aB : Nat → Nat} {aTp : Nat} {aSn : Nat} {aNw : Nat → Nat} {aLa : Nat → Nat} {aSt : Nat → Nat} {aKp : Nat → Nat} {aKl : Nat → Nat} {aPr : Nat → Nat} {aPs : Nat → Nat} {aLr : Nat → Nat} {aLl : Nat → Nat} {aOd : Nat → Nat} {aLn : Nat → Nat} {aSe : Nat → Nat} {aCu : Nat → Nat} {aPa : Nat → Nat → Nat} {sz : Nat} {B : OS} {tp : AT} {sn : AT} {Nw : OS} {La : OS} {St : OS} {Kp : OS} {Kl : OS} {Pr : OX} {Ps : OS} {Lr : OX} {Ll : OS} {Od : OS} {Ln : OS} {Se : OS} {Cu : OS} {Pa : PS} {p0 : Int32} {p1 : Int32} {cO : ClassId} {aO : Nat} {f : Nat → Int64} {post : Int32 → XS × (Nat → Int64) → Prop} (hst : l.stackTraces = false) (h : m_X11_alone (fun E x => E = "java/lang/IndexOutOfBoundsException" ∧ post 1 (x, f)) B tp sn Nw La St Kp Kl Pr Ps Lr Ll Od Ln Se Cu Pa p0 p1 (fun r x => post 0 (x, vp_updL f 0 r.toInt64))) : vx_Met l yL_alone (bH yL_alone cL_alone 5 (some .int) [(0, 10, 13, 24)]) (rmX 8 2) (fP (eW κ) (dOw aO (dX aB aTp aSn aNw aLa aSt aKp aKl aPr aPs aLr aLl aOd aLn aSe aCu aPa)) D (fOw (wX G aB aTp aSn aNw aLa aSt aKp aKl aPr aPs aLr aLl aOd aLn aSe aCu aPa) cO aO) ((cO, .long) :: xT G) sz ((B, tp, sn, Nw, La, St, Kp, Kl, Pr, Ps, Lr, Ll, Od, Ln, Se, Cu, Pa), f) [.ref (aB 0), .int p0, .int p1, .ref aO]) (va_Qi post (fB D (fOw (wX G aB aTp aSn aNw aLa aSt aKp aKl aPr aPs aLr aLl aOd aLn aSe aCu aPa) cO aO) ((cO, .long) :: xT G) (dOw aO (dX aB aTp aSn aNw aLa aSt aKp aKl aPr aPs aLr aLl aOd aLn aSe aCu aPa)) sz) (fA (dOw aO (dX aB aTp aSn aNw aLa aSt aKp aKl aPr aPs aLr aLl aOd aLn aSe aCu aPa)) sz)) (fun _ _ _ => False) 2 12 (fA (dOw aO (dX aB aTp aSn aNw aLa aSt aKp aKl aPr aPs aLr aLl aOd aLn aSe aCu aPa)) sz) := by
  refine fh_enter (fOw_ax xX).ad (by decide) (Nat.le_of_ble_eq_true rfl) ?_
  intro p e s m below meth c hz K9 hr hk htb I ls hl
  have K := K9.v
  have hx := K.x
  have hb := K.b
  have hl : lv_has ls 5 [(0, .ref (aB 0)), (1, .int p0), (2, .int p1), (3, .ref aO)] := hl
  refine lv_aload_n hx hb dL_alone_0 rfl (lv_at hl 3 rfl) ?_
  refine lv_iconst hx hb dL_alone_1 rfl ?_
  refine lv_aload_n hx hb dL_alone_2 rfl (lv_at hl 0 rfl) ?_
  refine lv_iload_n hx hb dL_alone_3 rfl (lv_at hl 1 rfl) ?_
  refine lv_iload_n hx hb dL_alone_4 rfl (lv_at hl 2 rfl) ?_
  exact wr_one (la := 2) (pg := 17) (As := [.int p0, .int p1]) xX cwL_alone (c_X11_alone hst h) rfl rfl ⟨Nat.le_of_ble_eq_true rfl, Nat.le_of_ble_eq_true rfl⟩ [1, 2] rfl (va_recv K.k I.1 (ci := 9) (q0 := 1) rfl rfl) rfl hl.1 K hr hk hz I ⟨Nat.le_of_ble_eq_true rfl, Nat.le_of_ble_eq_true rfl⟩ htb (by decide) (by decide) kL1044 nL1056 dL_alone_5 dL_alone_8 dL_alone_9 dL_alone_10 (by decide) (fun H1 locs1 q Q1 k => lv_astore hx hb dL_alone_13 hl (by decide) rfl (fun ls9 _ => k ls9)) dL_alone_15 dL_alone_16 dL_alone_17 dL_alone_18
theorem cwL_both : cwd RL 75 yX11_both cX11_both 4 (some .int) 2 := ⟨kL1299, kL1300, kL1301, kL165, kL1302, by decide, by decide, by decide +kernel⟩
set_option maxRecDepth 100000 in
theorem c_L_both {l : Launch} {κ : EK} {D : va_G} {G : XG} {aB : Nat → Nat} {aTp : Nat} {aSn : Nat} {aNw : Nat → Nat} {aLa : Nat → Nat} {aSt : Nat → Nat} {aKp : Nat → Nat} {aKl : Nat → Nat} {aPr : Nat → Nat} {aPs : Nat → Nat} {aLr : Nat → Nat} {aLl : Nat → Nat} {aOd : Nat → Nat} {aLn : Nat → Nat} {aSe : Nat → Nat} {aCu : Nat → Nat} {aPa : Nat → Nat → Nat} {sz : Nat} {B : OS} {tp : AT} {sn : AT} {Nw : OS} {La : OS} {St : OS} {Kp : OS} {Kl : OS} {Pr : OX} {Ps : OS} {Lr : OX} {Ll : OS} {Od : OS} {Ln : OS} {Se : OS} {Cu : OS} {Pa : PS} {p0 : Int32} {p1 : Int32} {cO : ClassId} {aO : Nat} {f : Nat → Int64} {post : Int32 → XS × (Nat → Int64) → Prop} (hst : l.stackTraces = false) (h : m_X11_both (fun E x => (E = "java/lang/IndexOutOfBoundsException" ∧ post 1 (x, f)) ∨ (E = "java/lang/IllegalArgumentException" ∧ post 2 (x, f))) B tp sn Nw La St Kp Kl Pr Ps Lr Ll Od Ln Se Cu Pa p0 p1 (fun r x => post 0 (x, vp_updL f 0 r.toInt64))) : vx_Met l yL_both (bH yL_both cL_both 5 (some .int) [(0, 10, 13, 24), (0, 10, 17, 13)]) (rmX 9 3) (fP (eW κ) (dOw aO (dX aB aTp aSn aNw aLa aSt aKp aKl aPr aPs aLr aLl aOd aLn aSe aCu aPa)) D (fOw (wX G aB aTp aSn aNw aLa aSt aKp aKl aPr aPs aLr aLl aOd aLn aSe aCu aPa) cO aO) ((cO, .long) :: xT G) sz ((B, tp, sn, Nw, La, St, Kp, Kl, Pr, Ps, Lr, Ll, Od, Ln, Se, Cu, Pa), f) [.ref (aB 0), .int p0, .int p1, .ref aO]) (va_Qi post (fB D (fOw (wX G aB aTp aSn aNw aLa aSt aKp aKl aPr aPs aLr aLl aOd aLn aSe aCu aPa) cO aO) ((cO, .long) :: xT G) (dOw aO (dX aB aTp aSn aNw aLa aSt aKp aKl aPr aPs aLr aLl aOd aLn aSe aCu aPa)) sz) (fA (dOw aO (dX aB aTp aSn aNw aLa aSt aKp aKl aPr aPs aLr aLl aOd aLn aSe aCu aPa)) sz)) (fun _ _ _ => False) 3 18 (fA (dOw aO (dX aB aTp aSn aNw aLa aSt aKp aKl aPr aPs aLr aLl aOd aLn aSe aCu aPa)) sz) := by
  refine fh_enter (fOw_ax xX).ad (by decide) (Nat.le_of_ble_eq_true rfl) ?_
  intro p e s m below meth c hz K9 hr hk htb I ls hl
  have K := K9.v
  have hx := K.x
  have hb := K.b
  have hl : lv_has ls 5 [(0, .ref (aB 0)), (1, .int p0), (2, .int p1), (3, .ref aO)] := hl
  refine lv_aload_n hx hb dL_both_0 rfl (lv_at hl 3 rfl) ?_
  refine lv_iconst hx hb dL_both_1 rfl ?_
  refine lv_aload_n hx hb dL_both_2 rfl (lv_at hl 0 rfl) ?_
  refine lv_iload_n hx hb dL_both_3 rfl (lv_at hl 1 rfl) ?_
  refine lv_iload_n hx hb dL_both_4 rfl (lv_at hl 2 rfl) ?_
  exact wr_two (la := 2) (la2 := 2) (pg := 21) (As := [.int p0, .int p1]) xX cwL_both (c_X11_both hst h) rfl rfl ⟨Nat.le_of_ble_eq_true rfl, Nat.le_of_ble_eq_true rfl⟩ [1, 2] rfl (va_recv K.k I.1 (ci := 9) (q0 := 1) rfl rfl) rfl hl.1 K hr hk hz I ⟨Nat.le_of_ble_eq_true rfl, Nat.le_of_ble_eq_true rfl⟩ htb (by decide) (by decide) kL1044 nL1056 (by decide) kL708 nL943 (K9.nc (by decide)) dL_both_5 dL_both_8 dL_both_9 dL_both_10 (by decide) (fun H1 locs1 q Q1 k => lv_astore hx hb dL_both_13 hl (by decide) rfl (fun ls9 _ => k ls9)) dL_both_15 dL_both_16 (fun H1 locs1 q Q1 k => lv_astore hx hb dL_both_17 hl (by decide) rfl (fun ls9 _ => k ls9)) dL_both_19 dL_both_20 dL_both_21 dL_both_22
theorem cwL_period : cwd RL 78 yX11_period cX11_period 3 (some .int) 1 := ⟨kL1306, kL1307, kL1308, kL165, kL1309, by decide, by decide, by decide +kernel⟩
set_option maxRecDepth 100000 in
theorem c_L_period {l : Launch} {κ : EK} {D : va_G} {G : XG} {aB : Nat → Nat} {aTp : Nat} {aSn : Nat} {aNw : Nat → Nat} {aLa : Nat → Nat} {aSt : Nat → Nat} {aKp : Nat → Nat} {aKl : Nat → Nat} {aPr : Nat → Nat} {aPs : Nat → Nat} {aLr : Nat → Nat} {aLl : Nat → Nat} {aOd : Nat → Nat} {aLn : Nat → Nat} {aSe : Nat → Nat} {aCu : Nat → Nat} {aPa : Nat → Nat → Nat} {sz : Nat} {B : OS} {tp : AT} {sn : AT} {Nw : OS} {La : OS} {St : OS} {Kp : OS} {Kl : OS} {Pr : OX} {Ps : OS} {Lr : OX} {Ll : OS} {Od : OS} {Ln : OS} {Se : OS} {Cu : OS} {Pa : PS} {p0 : Int32} {cO : ClassId} {aO : Nat} {f : Nat → Int64} {post : Int32 → XS × (Nat → Int64) → Prop} (hst : l.stackTraces = false) (h : m_X11_period (fun E x => E = "java/lang/IndexOutOfBoundsException" ∧ post 1 (x, f)) B tp sn Nw La St Kp Kl Pr Ps Lr Ll Od Ln Se Cu Pa p0 (fun r x => post 0 (x, vp_updL f 0 r.toInt64))) : vx_Met l yL_period (bH yL_period cL_period 4 (some .int) [(0, 9, 12, 24)]) (rmX 8 1) (fP (eW κ) (dOw aO (dX aB aTp aSn aNw aLa aSt aKp aKl aPr aPs aLr aLl aOd aLn aSe aCu aPa)) D (fOw (wX G aB aTp aSn aNw aLa aSt aKp aKl aPr aPs aLr aLl aOd aLn aSe aCu aPa) cO aO) ((cO, .long) :: xT G) sz ((B, tp, sn, Nw, La, St, Kp, Kl, Pr, Ps, Lr, Ll, Od, Ln, Se, Cu, Pa), f) [.ref (aB 0), .int p0, .ref aO]) (va_Qi post (fB D (fOw (wX G aB aTp aSn aNw aLa aSt aKp aKl aPr aPs aLr aLl aOd aLn aSe aCu aPa) cO aO) ((cO, .long) :: xT G) (dOw aO (dX aB aTp aSn aNw aLa aSt aKp aKl aPr aPs aLr aLl aOd aLn aSe aCu aPa)) sz) (fA (dOw aO (dX aB aTp aSn aNw aLa aSt aKp aKl aPr aPs aLr aLl aOd aLn aSe aCu aPa)) sz)) (fun _ _ _ => False) 1 6 (fA (dOw aO (dX aB aTp aSn aNw aLa aSt aKp aKl aPr aPs aLr aLl aOd aLn aSe aCu aPa)) sz) := by
  refine fh_enter (fOw_ax xX).ad (by decide) (Nat.le_of_ble_eq_true rfl) ?_
  intro p e s m below meth c hz K9 hr hk htb I ls hl
  have K := K9.v
  have hx := K.x
  have hb := K.b
  have hl : lv_has ls 4 [(0, .ref (aB 0)), (1, .int p0), (2, .ref aO)] := hl
  refine lv_aload_n hx hb dL_period_0 rfl (lv_at hl 2 rfl) ?_
  refine lv_iconst hx hb dL_period_1 rfl ?_
  refine lv_aload_n hx hb dL_period_2 rfl (lv_at hl 0 rfl) ?_
  refine lv_iload_n hx hb dL_period_3 rfl (lv_at hl 1 rfl) ?_
  exact wr_one (la := 1) (pg := 15) (As := [.int p0]) xX cwL_period (c_X11_period hst h) rfl rfl ⟨Nat.le_of_ble_eq_true rfl, Nat.le_of_ble_eq_true rfl⟩ [1, 2] rfl (va_recv K.k I.1 (ci := 9) (q0 := 1) rfl rfl) rfl hl.1 K hr hk hz I ⟨Nat.le_of_ble_eq_true rfl, Nat.le_of_ble_eq_true rfl⟩ htb (by decide) (by decide) kL1044 nL1056 dL_period_4 dL_period_7 dL_period_8 dL_period_9 (by decide) (fun H1 locs1 q Q1 k => lv_astore_n hx hb dL_period_12 rfl hl (by decide) rfl (fun ls9 _ => k ls9)) dL_period_13 dL_period_14 dL_period_15 dL_period_16
theorem cwL_stands : cwd RL 81 yX11_stands cX11_stands 7 (some .int) 3 := ⟨kL1313, kL1314, kL1315, kL165, kL1316, by decide, by decide, by decide +kernel⟩
set_option maxRecDepth 100000 in
theorem c_L_stands {l : Launch} {κ : EK} {D : va_G} {G : XG} {aB : Nat → Nat} {aTp : Nat} {aSn : Nat} {aNw : Nat → Nat} {aLa : Nat → Nat} {aSt : Nat → Nat} {aKp : Nat → Nat} {aKl : Nat → Nat} {aPr : Nat → Nat} {aPs : Nat → Nat} {aLr : Nat → Nat} {aLl : Nat → Nat} {aOd : Nat → Nat} {aLn : Nat → Nat} {aSe : Nat → Nat} {aCu : Nat → Nat} {aPa : Nat → Nat → Nat} {sz : Nat} {B : OS} {tp : AT} {sn : AT} {Nw : OS} {La : OS} {St : OS} {Kp : OS} {Kl : OS} {Pr : OX} {Ps : OS} {Lr : OX} {Ll : OS} {Od : OS} {Ln : OS} {Se : OS} {Cu : OS} {Pa : PS} {p0 : Int32} {p1 : Int32} {p2 : Int32} {cO : ClassId} {aO : Nat} {f : Nat → Int64} {post : Int32 → XS × (Nat → Int64) → Prop} (hst : l.stackTraces = false) (h : m_X11_stands (fun E x => (E = "java/lang/IndexOutOfBoundsException" ∧ post 1 (x, f)) ∨ (E = "java/lang/IllegalArgumentException" ∧ post 2 (x, f))) B tp sn Nw La St Kp Kl Pr Ps Lr Ll Od Ln Se Cu Pa p0 p1 p2 (fun r x => post 0 (x, vp_updL f 0 r.toInt64))) : vx_Met l yL_stands (bH yL_stands cL_stands 6 (some .int) [(0, 12, 15, 24), (0, 12, 19, 13)]) (rmX 8 2) (fP (eW κ) (dOw aO (dX aB aTp aSn aNw aLa aSt aKp aKl aPr aPs aLr aLl aOd aLn aSe aCu aPa)) D (fOw (wX G aB aTp aSn aNw aLa aSt aKp aKl aPr aPs aLr aLl aOd aLn aSe aCu aPa) cO aO) ((cO, .long) :: xT G) sz ((B, tp, sn, Nw, La, St, Kp, Kl, Pr, Ps, Lr, Ll, Od, Ln, Se, Cu, Pa), f) [.ref (aB 0), .int p0, .int p1, .int p2, .ref aO]) (va_Qi post (fB D (fOw (wX G aB aTp aSn aNw aLa aSt aKp aKl aPr aPs aLr aLl aOd aLn aSe aCu aPa) cO aO) ((cO, .long) :: xT G) (dOw aO (dX aB aTp aSn aNw aLa aSt aKp aKl aPr aPs aLr aLl aOd aLn aSe aCu aPa)) sz) (fA (dOw aO (dX aB aTp aSn aNw aLa aSt aKp aKl aPr aPs aLr aLl aOd aLn aSe aCu aPa)) sz)) (fun _ _ _ => False) 2 12 (fA (dOw aO (dX aB aTp aSn aNw aLa aSt aKp aKl aPr aPs aLr aLl aOd aLn aSe aCu aPa)) sz) := by
  refine fh_enter (fOw_ax xX).ad (by decide) (Nat.le_of_ble_eq_true rfl) ?_
  intro p e s m below meth c hz K9 hr hk htb I ls hl
  have K := K9.v
  have hx := K.x
  have hb := K.b
  have hl : lv_has ls 6 [(0, .ref (aB 0)), (1, .int p0), (2, .int p1), (3, .int p2), (4, .ref aO)] := hl
  refine lv_aload hx hb dL_stands_0 (lv_at hl 4 rfl) ?_
  refine lv_iconst hx hb dL_stands_2 rfl ?_
  refine lv_aload_n hx hb dL_stands_3 rfl (lv_at hl 0 rfl) ?_
  refine lv_iload_n hx hb dL_stands_4 rfl (lv_at hl 1 rfl) ?_
  refine lv_iload_n hx hb dL_stands_5 rfl (lv_at hl 2 rfl) ?_
  refine lv_iload_n hx hb dL_stands_6 rfl (lv_at hl 3 rfl) ?_
  exact wr_two (la := 2) (la2 := 2) (pg := 23) (As := [.int p0, .int p1, .int p2]) xX cwL_stands (c_X11_stands hst h) rfl rfl ⟨Nat.le_of_ble_eq_true rfl, Nat.le_of_ble_eq_true rfl⟩ [1, 2] rfl (va_recv K.k I.1 (ci := 9) (q0 := 1) rfl rfl) rfl hl.1 K hr hk hz I ⟨Nat.le_of_ble_eq_true rfl, Nat.le_of_ble_eq_true rfl⟩ htb (by decide) (by decide) kL1044 nL1056 (by decide) kL708 nL943 (K9.nc (by decide)) dL_stands_7 dL_stands_10 dL_stands_11 dL_stands_12 (by decide) (fun H1 locs1 q Q1 k => lv_astore hx hb dL_stands_15 hl (by decide) rfl (fun ls9 _ => k ls9)) dL_stands_17 dL_stands_18 (fun H1 locs1 q Q1 k => lv_astore hx hb dL_stands_19 hl (by decide) rfl (fun ls9 _ => k ls9)) dL_stands_21 dL_stands_22 dL_stands_23 dL_stands_24
theorem cwL_backs : cwd RL 85 yX11_backs cX11_backs 3 (some .int) 1 := ⟨kL1320, kL1321, kL1322, kL165, kL1323, by decide, by decide, by decide +kernel⟩
set_option maxRecDepth 100000 in
theorem c_L_backs {l : Launch} {κ : EK} {D : va_G} {G : XG} {aB : Nat → Nat} {aTp : Nat} {aSn : Nat} {aNw : Nat → Nat} {aLa : Nat → Nat} {aSt : Nat → Nat} {aKp : Nat → Nat} {aKl : Nat → Nat} {aPr : Nat → Nat} {aPs : Nat → Nat} {aLr : Nat → Nat} {aLl : Nat → Nat} {aOd : Nat → Nat} {aLn : Nat → Nat} {aSe : Nat → Nat} {aCu : Nat → Nat} {aPa : Nat → Nat → Nat} {sz : Nat} {B : OS} {tp : AT} {sn : AT} {Nw : OS} {La : OS} {St : OS} {Kp : OS} {Kl : OS} {Pr : OX} {Ps : OS} {Lr : OX} {Ll : OS} {Od : OS} {Ln : OS} {Se : OS} {Cu : OS} {Pa : PS} {p0 : Int32} {cO : ClassId} {aO : Nat} {f : Nat → Int64} {post : Int32 → XS × (Nat → Int64) → Prop} (hst : l.stackTraces = false) (h : m_X11_backs (fun E x => E = "java/lang/IllegalArgumentException" ∧ post 1 (x, f)) B tp sn Nw La St Kp Kl Pr Ps Lr Ll Od Ln Se Cu Pa p0 (fun r x => post 0 (x, vp_updL f 0 r.toInt64))) : vx_Met l yL_backs (bH yL_backs cL_backs 4 (some .int) [(0, 9, 12, 13)]) (rmX 8 1) (fP (eW κ) (dOw aO (dX aB aTp aSn aNw aLa aSt aKp aKl aPr aPs aLr aLl aOd aLn aSe aCu aPa)) D (fOw (wX G aB aTp aSn aNw aLa aSt aKp aKl aPr aPs aLr aLl aOd aLn aSe aCu aPa) cO aO) ((cO, .long) :: xT G) sz ((B, tp, sn, Nw, La, St, Kp, Kl, Pr, Ps, Lr, Ll, Od, Ln, Se, Cu, Pa), f) [.ref (aB 0), .int p0, .ref aO]) (va_Qi post (fB D (fOw (wX G aB aTp aSn aNw aLa aSt aKp aKl aPr aPs aLr aLl aOd aLn aSe aCu aPa) cO aO) ((cO, .long) :: xT G) (dOw aO (dX aB aTp aSn aNw aLa aSt aKp aKl aPr aPs aLr aLl aOd aLn aSe aCu aPa)) sz) (fA (dOw aO (dX aB aTp aSn aNw aLa aSt aKp aKl aPr aPs aLr aLl aOd aLn aSe aCu aPa)) sz)) (fun _ _ _ => False) 1 6 (fA (dOw aO (dX aB aTp aSn aNw aLa aSt aKp aKl aPr aPs aLr aLl aOd aLn aSe aCu aPa)) sz) := by
  refine fh_enter (fOw_ax xX).ad (by decide) (Nat.le_of_ble_eq_true rfl) ?_
  intro p e s m below meth c hz K9 hr hk htb I ls hl
  have K := K9.v
  have hx := K.x
  have hb := K.b
  have hl : lv_has ls 4 [(0, .ref (aB 0)), (1, .int p0), (2, .ref aO)] := hl
  refine lv_aload_n hx hb dL_backs_0 rfl (lv_at hl 2 rfl) ?_
  refine lv_iconst hx hb dL_backs_1 rfl ?_
  refine lv_aload_n hx hb dL_backs_2 rfl (lv_at hl 0 rfl) ?_
  refine lv_iload_n hx hb dL_backs_3 rfl (lv_at hl 1 rfl) ?_
  exact wr_one (la := 1) (pg := 15) (As := [.int p0]) xX cwL_backs (c_X11_backs hst h) rfl rfl ⟨Nat.le_of_ble_eq_true rfl, Nat.le_of_ble_eq_true rfl⟩ [1, 2] rfl (va_recv K.k I.1 (ci := 9) (q0 := 1) rfl rfl) rfl hl.1 K hr hk hz I ⟨Nat.le_of_ble_eq_true rfl, Nat.le_of_ble_eq_true rfl⟩ htb (by decide) (by decide) kL708 nL943 dL_backs_4 dL_backs_7 dL_backs_8 dL_backs_9 (by decide) (fun H1 locs1 q Q1 k => lv_astore_n hx hb dL_backs_12 rfl hl (by decide) rfl (fun ls9 _ => k ls9)) dL_backs_13 dL_backs_14 dL_backs_15 dL_backs_16
theorem cwL_ask : cwd RL 88 yX11_ask cX11_ask 1 (some .int) 0 := ⟨kL1351, kL1352, kL1353, kL165, kL1354, by decide, by decide, by decide +kernel⟩
set_option maxRecDepth 100000 in
theorem c_L_ask {l : Launch} {κ : EK} {D : va_G} {G : XG} {aB : Nat → Nat} {aTp : Nat} {aSn : Nat} {aNw : Nat → Nat} {aLa : Nat → Nat} {aSt : Nat → Nat} {aKp : Nat → Nat} {aKl : Nat → Nat} {aPr : Nat → Nat} {aPs : Nat → Nat} {aLr : Nat → Nat} {aLl : Nat → Nat} {aOd : Nat → Nat} {aLn : Nat → Nat} {aSe : Nat → Nat} {aCu : Nat → Nat} {aPa : Nat → Nat → Nat} {sz : Nat} {B : OS} {tp : AT} {sn : AT} {Nw : OS} {La : OS} {St : OS} {Kp : OS} {Kl : OS} {Pr : OX} {Ps : OS} {Lr : OX} {Ll : OS} {Od : OS} {Ln : OS} {Se : OS} {Cu : OS} {Pa : PS}  {cO : ClassId} {aO : Nat} {f : Nat → Int64} {post : Int32 → XS × (Nat → Int64) → Prop} (hst : l.stackTraces = false) (h : m_X11_ask (fun E x => E = "java/lang/IllegalArgumentException" ∧ post 1 (x, f)) B tp sn Nw La St Kp Kl Pr Ps Lr Ll Od Ln Se Cu Pa (fun r x => post 0 (x, vp_updL f 0 r.toInt64))) : vx_Met l yL_ask (bH yL_ask cL_ask 3 (some .int) [(0, 8, 11, 13)]) (rmX 8 1) (fP (eW κ) (dOw aO (dX aB aTp aSn aNw aLa aSt aKp aKl aPr aPs aLr aLl aOd aLn aSe aCu aPa)) D (fOw (wX G aB aTp aSn aNw aLa aSt aKp aKl aPr aPs aLr aLl aOd aLn aSe aCu aPa) cO aO) ((cO, .long) :: xT G) sz ((B, tp, sn, Nw, La, St, Kp, Kl, Pr, Ps, Lr, Ll, Od, Ln, Se, Cu, Pa), f) [.ref (aB 0), .ref aO]) (va_Qi post (fB D (fOw (wX G aB aTp aSn aNw aLa aSt aKp aKl aPr aPs aLr aLl aOd aLn aSe aCu aPa) cO aO) ((cO, .long) :: xT G) (dOw aO (dX aB aTp aSn aNw aLa aSt aKp aKl aPr aPs aLr aLl aOd aLn aSe aCu aPa)) sz) (fA (dOw aO (dX aB aTp aSn aNw aLa aSt aKp aKl aPr aPs aLr aLl aOd aLn aSe aCu aPa)) sz)) (fun _ _ _ => False) 1 6 (fA (dOw aO (dX aB aTp aSn aNw aLa aSt aKp aKl aPr aPs aLr aLl aOd aLn aSe aCu aPa)) sz) := by
  refine fh_enter (fOw_ax xX).ad (by decide) (Nat.le_of_ble_eq_true rfl) ?_
  intro p e s m below meth c hz K9 hr hk htb I ls hl
  have K := K9.v
  have hx := K.x
  have hb := K.b
  have hl : lv_has ls 3 [(0, .ref (aB 0)), (1, .ref aO)] := hl
  refine lv_aload_n hx hb dL_ask_0 rfl (lv_at hl 1 rfl) ?_
  refine lv_iconst hx hb dL_ask_1 rfl ?_
  refine lv_aload_n hx hb dL_ask_2 rfl (lv_at hl 0 rfl) ?_
  exact wr_one (la := 1) (pg := 14) (As := []) xX cwL_ask (c_X11_ask hst h) rfl rfl ⟨Nat.le_of_ble_eq_true rfl, Nat.le_of_ble_eq_true rfl⟩ [1, 2] rfl (va_recv K.k I.1 (ci := 9) (q0 := 1) rfl rfl) rfl hl.1 K hr hk hz I ⟨Nat.le_of_ble_eq_true rfl, Nat.le_of_ble_eq_true rfl⟩ htb (by decide) (by decide) kL708 nL943 dL_ask_3 dL_ask_6 dL_ask_7 dL_ask_8 (by decide) (fun H1 locs1 q Q1 k => lv_astore_n hx hb dL_ask_11 rfl hl (by decide) rfl (fun ls9 _ => k ls9)) dL_ask_12 dL_ask_13 dL_ask_14 dL_ask_15
theorem cwL_round : cwd RL 91 yX11_round cX11_round 2 (some .int) 1 := ⟨kL1363, kL1364, kL1365, kL165, kL1366, by decide, by decide, by decide +kernel⟩
set_option maxRecDepth 100000 in
theorem c_L_round {l : Launch} {κ : EK} {D : va_G} {G : XG} {aB : Nat → Nat} {aTp : Nat} {aSn : Nat} {aNw : Nat → Nat} {aLa : Nat → Nat} {aSt : Nat → Nat} {aKp : Nat → Nat} {aKl : Nat → Nat} {aPr : Nat → Nat} {aPs : Nat → Nat} {aLr : Nat → Nat} {aLl : Nat → Nat} {aOd : Nat → Nat} {aLn : Nat → Nat} {aSe : Nat → Nat} {aCu : Nat → Nat} {aPa : Nat → Nat → Nat} {sz : Nat} {B : OS} {tp : AT} {sn : AT} {Nw : OS} {La : OS} {St : OS} {Kp : OS} {Kl : OS} {Pr : OX} {Ps : OS} {Lr : OX} {Ll : OS} {Od : OS} {Ln : OS} {Se : OS} {Cu : OS} {Pa : PS} {p0 : Int32} {cO : ClassId} {aO : Nat} {f : Nat → Int64} {post : Int32 → XS × (Nat → Int64) → Prop} (hst : l.stackTraces = false) (h : m_X11_round (fun E x => E = "java/lang/IllegalArgumentException" ∧ post 1 (x, f)) B tp sn Nw La St Kp Kl Pr Ps Lr Ll Od Ln Se Cu Pa p0 (fun r x => post 0 (x, vp_updL f 0 r.toInt64))) : vx_Met l yL_round (bH yL_round cL_round 4 (some .int) [(0, 9, 12, 13)]) (rmX 8 1) (fP (eW κ) (dOw aO (dX aB aTp aSn aNw aLa aSt aKp aKl aPr aPs aLr aLl aOd aLn aSe aCu aPa)) D (fOw (wX G aB aTp aSn aNw aLa aSt aKp aKl aPr aPs aLr aLl aOd aLn aSe aCu aPa) cO aO) ((cO, .long) :: xT G) sz ((B, tp, sn, Nw, La, St, Kp, Kl, Pr, Ps, Lr, Ll, Od, Ln, Se, Cu, Pa), f) [.ref (aB 0), .int p0, .ref aO]) (va_Qi post (fB D (fOw (wX G aB aTp aSn aNw aLa aSt aKp aKl aPr aPs aLr aLl aOd aLn aSe aCu aPa) cO aO) ((cO, .long) :: xT G) (dOw aO (dX aB aTp aSn aNw aLa aSt aKp aKl aPr aPs aLr aLl aOd aLn aSe aCu aPa)) sz) (fA (dOw aO (dX aB aTp aSn aNw aLa aSt aKp aKl aPr aPs aLr aLl aOd aLn aSe aCu aPa)) sz)) (fun _ _ _ => False) 1 6 (fA (dOw aO (dX aB aTp aSn aNw aLa aSt aKp aKl aPr aPs aLr aLl aOd aLn aSe aCu aPa)) sz) := by
  refine fh_enter (fOw_ax xX).ad (by decide) (Nat.le_of_ble_eq_true rfl) ?_
  intro p e s m below meth c hz K9 hr hk htb I ls hl
  have K := K9.v
  have hx := K.x
  have hb := K.b
  have hl : lv_has ls 4 [(0, .ref (aB 0)), (1, .int p0), (2, .ref aO)] := hl
  refine lv_aload_n hx hb dL_round_0 rfl (lv_at hl 2 rfl) ?_
  refine lv_iconst hx hb dL_round_1 rfl ?_
  refine lv_aload_n hx hb dL_round_2 rfl (lv_at hl 0 rfl) ?_
  refine lv_iload_n hx hb dL_round_3 rfl (lv_at hl 1 rfl) ?_
  exact wr_one (la := 1) (pg := 15) (As := [.int p0]) xX cwL_round (c_X11_round hst h) rfl rfl ⟨Nat.le_of_ble_eq_true rfl, Nat.le_of_ble_eq_true rfl⟩ [1, 2] rfl (va_recv K.k I.1 (ci := 9) (q0 := 1) rfl rfl) rfl hl.1 K hr hk hz I ⟨Nat.le_of_ble_eq_true rfl, Nat.le_of_ble_eq_true rfl⟩ htb (by decide) (by decide) kL708 nL943 dL_round_4 dL_round_7 dL_round_8 dL_round_9 (by decide) (fun H1 locs1 q Q1 k => lv_astore_n hx hb dL_round_12 rfl hl (by decide) rfl (fun ls9 _ => k ls9)) dL_round_13 dL_round_14 dL_round_15 dL_round_16
theorem cwL_tries : cwd RL 95 yX11_tries cX11_tries 1 (some .int) 0 := ⟨kL1387, kL1388, kL1389, kL165, kL1390, by decide, by decide, by decide +kernel⟩
set_option maxRecDepth 100000 in
theorem c_L_tries {l : Launch} {κ : EK} {D : va_G} {G : XG} {aB : Nat → Nat} {aTp : Nat} {aSn : Nat} {aNw : Nat → Nat} {aLa : Nat → Nat} {aSt : Nat → Nat} {aKp : Nat → Nat} {aKl : Nat → Nat} {aPr : Nat → Nat} {aPs : Nat → Nat} {aLr : Nat → Nat} {aLl : Nat → Nat} {aOd : Nat → Nat} {aLn : Nat → Nat} {aSe : Nat → Nat} {aCu : Nat → Nat} {aPa : Nat → Nat → Nat} {sz : Nat} {B : OS} {tp : AT} {sn : AT} {Nw : OS} {La : OS} {St : OS} {Kp : OS} {Kl : OS} {Pr : OX} {Ps : OS} {Lr : OX} {Ll : OS} {Od : OS} {Ln : OS} {Se : OS} {Cu : OS} {Pa : PS}  {cO : ClassId} {aO : Nat} {f : Nat → Int64} {post : Int32 → XS × (Nat → Int64) → Prop} (hst : l.stackTraces = false) (h : m_X11_tries (fun E x => E = "java/lang/IllegalArgumentException" ∧ post 1 (x, f)) B tp sn Nw La St Kp Kl Pr Ps Lr Ll Od Ln Se Cu Pa (fun r x => post 0 (x, vp_updL f 0 r.toInt64))) : vx_Met l yL_tries (bH yL_tries cL_tries 3 (some .int) [(0, 8, 11, 13)]) (rmX 8 1) (fP (eW κ) (dOw aO (dX aB aTp aSn aNw aLa aSt aKp aKl aPr aPs aLr aLl aOd aLn aSe aCu aPa)) D (fOw (wX G aB aTp aSn aNw aLa aSt aKp aKl aPr aPs aLr aLl aOd aLn aSe aCu aPa) cO aO) ((cO, .long) :: xT G) sz ((B, tp, sn, Nw, La, St, Kp, Kl, Pr, Ps, Lr, Ll, Od, Ln, Se, Cu, Pa), f) [.ref (aB 0), .ref aO]) (va_Qi post (fB D (fOw (wX G aB aTp aSn aNw aLa aSt aKp aKl aPr aPs aLr aLl aOd aLn aSe aCu aPa) cO aO) ((cO, .long) :: xT G) (dOw aO (dX aB aTp aSn aNw aLa aSt aKp aKl aPr aPs aLr aLl aOd aLn aSe aCu aPa)) sz) (fA (dOw aO (dX aB aTp aSn aNw aLa aSt aKp aKl aPr aPs aLr aLl aOd aLn aSe aCu aPa)) sz)) (fun _ _ _ => False) 1 6 (fA (dOw aO (dX aB aTp aSn aNw aLa aSt aKp aKl aPr aPs aLr aLl aOd aLn aSe aCu aPa)) sz) := by
  refine fh_enter (fOw_ax xX).ad (by decide) (Nat.le_of_ble_eq_true rfl) ?_
  intro p e s m below meth c hz K9 hr hk htb I ls hl
  have K := K9.v
  have hx := K.x
  have hb := K.b
  have hl : lv_has ls 3 [(0, .ref (aB 0)), (1, .ref aO)] := hl
  refine lv_aload_n hx hb dL_tries_0 rfl (lv_at hl 1 rfl) ?_
  refine lv_iconst hx hb dL_tries_1 rfl ?_
  refine lv_aload_n hx hb dL_tries_2 rfl (lv_at hl 0 rfl) ?_
  exact wr_one (la := 1) (pg := 14) (As := []) xX cwL_tries (c_X11_tries hst h) rfl rfl ⟨Nat.le_of_ble_eq_true rfl, Nat.le_of_ble_eq_true rfl⟩ [1, 2] rfl (va_recv K.k I.1 (ci := 9) (q0 := 1) rfl rfl) rfl hl.1 K hr hk hz I ⟨Nat.le_of_ble_eq_true rfl, Nat.le_of_ble_eq_true rfl⟩ htb (by decide) (by decide) kL708 nL943 dL_tries_3 dL_tries_6 dL_tries_7 dL_tries_8 (by decide) (fun H1 locs1 q Q1 k => lv_astore_n hx hb dL_tries_11 rfl hl (by decide) rfl (fun ls9 _ => k ls9)) dL_tries_12 dL_tries_13 dL_tries_14 dL_tries_15
theorem cwL_calls : cwd RL 98 yX11_calls cX11_calls 6 (some .int) 3 := ⟨kL1404, kL1405, kL1406, kL165, kL1407, by decide, by decide, by decide +kernel⟩
set_option maxRecDepth 100000 in
theorem c_L_calls {l : Launch} {κ : EK} {D : va_G} {G : XG} {aB : Nat → Nat} {aTp : Nat} {aSn : Nat} {aNw : Nat → Nat} {aLa : Nat → Nat} {aSt : Nat → Nat} {aKp : Nat → Nat} {aKl : Nat → Nat} {aPr : Nat → Nat} {aPs : Nat → Nat} {aLr : Nat → Nat} {aLl : Nat → Nat} {aOd : Nat → Nat} {aLn : Nat → Nat} {aSe : Nat → Nat} {aCu : Nat → Nat} {aPa : Nat → Nat → Nat} {sz : Nat} {B : OS} {tp : AT} {sn : AT} {Nw : OS} {La : OS} {St : OS} {Kp : OS} {Kl : OS} {Pr : OX} {Ps : OS} {Lr : OX} {Ll : OS} {Od : OS} {Ln : OS} {Se : OS} {Cu : OS} {Pa : PS} {p0 : Int32} {p1 : Int32} {p2 : Int32} {cO : ClassId} {aO : Nat} {f : Nat → Int64} {post : Int32 → XS × (Nat → Int64) → Prop} (hst : l.stackTraces = false) (h : m_X11_calls (fun E x => (E = "java/lang/IndexOutOfBoundsException" ∧ post 1 (x, f)) ∨ (E = "java/lang/IllegalArgumentException" ∧ post 2 (x, f))) B tp sn Nw La St Kp Kl Pr Ps Lr Ll Od Ln Se Cu Pa p0 p1 p2 (fun r x => post 0 (x, vp_updL f 0 r.toInt64))) : vx_Met l yL_calls (bH yL_calls cL_calls 6 (some .int) [(0, 12, 15, 24), (0, 12, 19, 13)]) (rmX 8 3) (fP (eW κ) (dOw aO (dX aB aTp aSn aNw aLa aSt aKp aKl aPr aPs aLr aLl aOd aLn aSe aCu aPa)) D (fOw (wX G aB aTp aSn aNw aLa aSt aKp aKl aPr aPs aLr aLl aOd aLn aSe aCu aPa) cO aO) ((cO, .long) :: xT G) sz ((B, tp, sn, Nw, La, St, Kp, Kl, Pr, Ps, Lr, Ll, Od, Ln, Se, Cu, Pa), f) [.ref (aB 0), .int p0, .int p1, .int p2, .ref aO]) (va_Qi post (fB D (fOw (wX G aB aTp aSn aNw aLa aSt aKp aKl aPr aPs aLr aLl aOd aLn aSe aCu aPa) cO aO) ((cO, .long) :: xT G) (dOw aO (dX aB aTp aSn aNw aLa aSt aKp aKl aPr aPs aLr aLl aOd aLn aSe aCu aPa)) sz) (fA (dOw aO (dX aB aTp aSn aNw aLa aSt aKp aKl aPr aPs aLr aLl aOd aLn aSe aCu aPa)) sz)) (fun _ _ _ => False) 3 18 (fA (dOw aO (dX aB aTp aSn aNw aLa aSt aKp aKl aPr aPs aLr aLl aOd aLn aSe aCu aPa)) sz) := by
  refine fh_enter (fOw_ax xX).ad (by decide) (Nat.le_of_ble_eq_true rfl) ?_
  intro p e s m below meth c hz K9 hr hk htb I ls hl
  have K := K9.v
  have hx := K.x
  have hb := K.b
  have hl : lv_has ls 6 [(0, .ref (aB 0)), (1, .int p0), (2, .int p1), (3, .int p2), (4, .ref aO)] := hl
  refine lv_aload hx hb dL_calls_0 (lv_at hl 4 rfl) ?_
  refine lv_iconst hx hb dL_calls_2 rfl ?_
  refine lv_aload_n hx hb dL_calls_3 rfl (lv_at hl 0 rfl) ?_
  refine lv_iload_n hx hb dL_calls_4 rfl (lv_at hl 1 rfl) ?_
  refine lv_iload_n hx hb dL_calls_5 rfl (lv_at hl 2 rfl) ?_
  refine lv_iload_n hx hb dL_calls_6 rfl (lv_at hl 3 rfl) ?_
  exact wr_two (la := 2) (la2 := 2) (pg := 23) (As := [.int p0, .int p1, .int p2]) xX cwL_calls (c_X11_calls hst h) rfl rfl ⟨Nat.le_of_ble_eq_true rfl, Nat.le_of_ble_eq_true rfl⟩ [1, 2] rfl (va_recv K.k I.1 (ci := 9) (q0 := 1) rfl rfl) rfl hl.1 K hr hk hz I ⟨Nat.le_of_ble_eq_true rfl, Nat.le_of_ble_eq_true rfl⟩ htb (by decide) (by decide) kL1044 nL1056 (by decide) kL708 nL943 (K9.nc (by decide)) dL_calls_7 dL_calls_10 dL_calls_11 dL_calls_12 (by decide) (fun H1 locs1 q Q1 k => lv_astore hx hb dL_calls_15 hl (by decide) rfl (fun ls9 _ => k ls9)) dL_calls_17 dL_calls_18 (fun H1 locs1 q Q1 k => lv_astore hx hb dL_calls_19 hl (by decide) rfl (fun ls9 _ => k ls9)) dL_calls_21 dL_calls_22 dL_calls_23 dL_calls_24
theorem cwL_told : cwd RL 101 yX11_told cX11_told 5 (some .int) 2 := ⟨kL1415, kL1416, kL1417, kL165, kL1418, by decide, by decide, by decide +kernel⟩
set_option maxRecDepth 100000 in
theorem c_L_told {l : Launch} {κ : EK} {D : va_G} {G : XG} {aB : Nat → Nat} {aTp : Nat} {aSn : Nat} {aNw : Nat → Nat} {aLa : Nat → Nat} {aSt : Nat → Nat} {aKp : Nat → Nat} {aKl : Nat → Nat} {aPr : Nat → Nat} {aPs : Nat → Nat} {aLr : Nat → Nat} {aLl : Nat → Nat} {aOd : Nat → Nat} {aLn : Nat → Nat} {aSe : Nat → Nat} {aCu : Nat → Nat} {aPa : Nat → Nat → Nat} {sz : Nat} {B : OS} {tp : AT} {sn : AT} {Nw : OS} {La : OS} {St : OS} {Kp : OS} {Kl : OS} {Pr : OX} {Ps : OS} {Lr : OX} {Ll : OS} {Od : OS} {Ln : OS} {Se : OS} {Cu : OS} {Pa : PS} {p0 : Int32} {p1 : Int32} {cO : ClassId} {aO : Nat} {f : Nat → Int64} {post : Int32 → XS × (Nat → Int64) → Prop} (hst : l.stackTraces = false) (h : m_X11_told (fun E x => (E = "java/lang/IndexOutOfBoundsException" ∧ post 1 (x, f)) ∨ (E = "java/lang/IllegalArgumentException" ∧ post 2 (x, f))) B tp sn Nw La St Kp Kl Pr Ps Lr Ll Od Ln Se Cu Pa p0 p1 (fun r x => post 0 (x, vp_updL f 0 r.toInt64))) : vx_Met l yL_told (bH yL_told cL_told 5 (some .int) [(0, 10, 13, 24), (0, 10, 17, 13)]) (rmX 8 2) (fP (eW κ) (dOw aO (dX aB aTp aSn aNw aLa aSt aKp aKl aPr aPs aLr aLl aOd aLn aSe aCu aPa)) D (fOw (wX G aB aTp aSn aNw aLa aSt aKp aKl aPr aPs aLr aLl aOd aLn aSe aCu aPa) cO aO) ((cO, .long) :: xT G) sz ((B, tp, sn, Nw, La, St, Kp, Kl, Pr, Ps, Lr, Ll, Od, Ln, Se, Cu, Pa), f) [.ref (aB 0), .int p0, .int p1, .ref aO]) (va_Qi post (fB D (fOw (wX G aB aTp aSn aNw aLa aSt aKp aKl aPr aPs aLr aLl aOd aLn aSe aCu aPa) cO aO) ((cO, .long) :: xT G) (dOw aO (dX aB aTp aSn aNw aLa aSt aKp aKl aPr aPs aLr aLl aOd aLn aSe aCu aPa)) sz) (fA (dOw aO (dX aB aTp aSn aNw aLa aSt aKp aKl aPr aPs aLr aLl aOd aLn aSe aCu aPa)) sz)) (fun _ _ _ => False) 2 12 (fA (dOw aO (dX aB aTp aSn aNw aLa aSt aKp aKl aPr aPs aLr aLl aOd aLn aSe aCu aPa)) sz) := by
  refine fh_enter (fOw_ax xX).ad (by decide) (Nat.le_of_ble_eq_true rfl) ?_
  intro p e s m below meth c hz K9 hr hk htb I ls hl
  have K := K9.v
  have hx := K.x
  have hb := K.b
  have hl : lv_has ls 5 [(0, .ref (aB 0)), (1, .int p0), (2, .int p1), (3, .ref aO)] := hl
  refine lv_aload_n hx hb dL_told_0 rfl (lv_at hl 3 rfl) ?_
  refine lv_iconst hx hb dL_told_1 rfl ?_
  refine lv_aload_n hx hb dL_told_2 rfl (lv_at hl 0 rfl) ?_
  refine lv_iload_n hx hb dL_told_3 rfl (lv_at hl 1 rfl) ?_
  refine lv_iload_n hx hb dL_told_4 rfl (lv_at hl 2 rfl) ?_
  exact wr_two (la := 2) (la2 := 2) (pg := 21) (As := [.int p0, .int p1]) xX cwL_told (c_X11_told hst h) rfl rfl ⟨Nat.le_of_ble_eq_true rfl, Nat.le_of_ble_eq_true rfl⟩ [1, 2] rfl (va_recv K.k I.1 (ci := 9) (q0 := 1) rfl rfl) rfl hl.1 K hr hk hz I ⟨Nat.le_of_ble_eq_true rfl, Nat.le_of_ble_eq_true rfl⟩ htb (by decide) (by decide) kL1044 nL1056 (by decide) kL708 nL943 (K9.nc (by decide)) dL_told_5 dL_told_8 dL_told_9 dL_told_10 (by decide) (fun H1 locs1 q Q1 k => lv_astore hx hb dL_told_13 hl (by decide) rfl (fun ls9 _ => k ls9)) dL_told_15 dL_told_16 (fun H1 locs1 q Q1 k => lv_astore hx hb dL_told_17 hl (by decide) rfl (fun ls9 _ => k ls9)) dL_told_19 dL_told_20 dL_told_21 dL_told_22
theorem cwL_few : cwd RL 104 yX11_few cX11_few 4 (some .int) 1 := ⟨kL1422, kL1423, kL1424, kL165, kL1425, by decide, by decide, by decide +kernel⟩
set_option maxRecDepth 100000 in
theorem c_L_few {l : Launch} {κ : EK} {D : va_G} {G : XG} {aB : Nat → Nat} {aTp : Nat} {aSn : Nat} {aNw : Nat → Nat} {aLa : Nat → Nat} {aSt : Nat → Nat} {aKp : Nat → Nat} {aKl : Nat → Nat} {aPr : Nat → Nat} {aPs : Nat → Nat} {aLr : Nat → Nat} {aLl : Nat → Nat} {aOd : Nat → Nat} {aLn : Nat → Nat} {aSe : Nat → Nat} {aCu : Nat → Nat} {aPa : Nat → Nat → Nat} {sz : Nat} {B : OS} {tp : AT} {sn : AT} {Nw : OS} {La : OS} {St : OS} {Kp : OS} {Kl : OS} {Pr : OX} {Ps : OS} {Lr : OX} {Ll : OS} {Od : OS} {Ln : OS} {Se : OS} {Cu : OS} {Pa : PS} {p0 : Int32} {cO : ClassId} {aO : Nat} {f : Nat → Int64} {post : Int32 → XS × (Nat → Int64) → Prop} (hst : l.stackTraces = false) (h : m_X11_few (fun E x => E = "java/lang/IllegalArgumentException" ∧ post 1 (x, f)) B tp sn Nw La St Kp Kl Pr Ps Lr Ll Od Ln Se Cu Pa p0 (fun r x => post 0 (x, vp_updL f 0 r.toInt64))) : vx_Met l yL_few (bH yL_few cL_few 4 (some .int) [(0, 9, 12, 13)]) (rmX 8 1) (fP (eW κ) (dOw aO (dX aB aTp aSn aNw aLa aSt aKp aKl aPr aPs aLr aLl aOd aLn aSe aCu aPa)) D (fOw (wX G aB aTp aSn aNw aLa aSt aKp aKl aPr aPs aLr aLl aOd aLn aSe aCu aPa) cO aO) ((cO, .long) :: xT G) sz ((B, tp, sn, Nw, La, St, Kp, Kl, Pr, Ps, Lr, Ll, Od, Ln, Se, Cu, Pa), f) [.ref (aB 0), .int p0, .ref aO]) (va_Qi post (fB D (fOw (wX G aB aTp aSn aNw aLa aSt aKp aKl aPr aPs aLr aLl aOd aLn aSe aCu aPa) cO aO) ((cO, .long) :: xT G) (dOw aO (dX aB aTp aSn aNw aLa aSt aKp aKl aPr aPs aLr aLl aOd aLn aSe aCu aPa)) sz) (fA (dOw aO (dX aB aTp aSn aNw aLa aSt aKp aKl aPr aPs aLr aLl aOd aLn aSe aCu aPa)) sz)) (fun _ _ _ => False) 1 6 (fA (dOw aO (dX aB aTp aSn aNw aLa aSt aKp aKl aPr aPs aLr aLl aOd aLn aSe aCu aPa)) sz) := by
  refine fh_enter (fOw_ax xX).ad (by decide) (Nat.le_of_ble_eq_true rfl) ?_
  intro p e s m below meth c hz K9 hr hk htb I ls hl
  have K := K9.v
  have hx := K.x
  have hb := K.b
  have hl : lv_has ls 4 [(0, .ref (aB 0)), (1, .int p0), (2, .ref aO)] := hl
  refine lv_aload_n hx hb dL_few_0 rfl (lv_at hl 2 rfl) ?_
  refine lv_iconst hx hb dL_few_1 rfl ?_
  refine lv_aload_n hx hb dL_few_2 rfl (lv_at hl 0 rfl) ?_
  refine lv_iload_n hx hb dL_few_3 rfl (lv_at hl 1 rfl) ?_
  exact wr_one (la := 1) (pg := 15) (As := [.int p0]) xX cwL_few (c_X11_few hst h) rfl rfl ⟨Nat.le_of_ble_eq_true rfl, Nat.le_of_ble_eq_true rfl⟩ [1, 2] rfl (va_recv K.k I.1 (ci := 9) (q0 := 1) rfl rfl) rfl hl.1 K hr hk hz I ⟨Nat.le_of_ble_eq_true rfl, Nat.le_of_ble_eq_true rfl⟩ htb (by decide) (by decide) kL708 nL943 dL_few_4 dL_few_7 dL_few_8 dL_few_9 (by decide) (fun H1 locs1 q Q1 k => lv_astore_n hx hb dL_few_12 rfl hl (by decide) rfl (fun ls9 _ => k ls9)) dL_few_13 dL_few_14 dL_few_15 dL_few_16
theorem cwL_seated : cwd RL 107 yX11_seated cX11_seated 2 (some .int) 1 := ⟨kL1433, kL1434, kL1435, kL165, kL1436, by decide, by decide, by decide +kernel⟩
set_option maxRecDepth 100000 in
theorem c_L_seated {l : Launch} {κ : EK} {D : va_G} {G : XG} {aB : Nat → Nat} {aTp : Nat} {aSn : Nat} {aNw : Nat → Nat} {aLa : Nat → Nat} {aSt : Nat → Nat} {aKp : Nat → Nat} {aKl : Nat → Nat} {aPr : Nat → Nat} {aPs : Nat → Nat} {aLr : Nat → Nat} {aLl : Nat → Nat} {aOd : Nat → Nat} {aLn : Nat → Nat} {aSe : Nat → Nat} {aCu : Nat → Nat} {aPa : Nat → Nat → Nat} {sz : Nat} {B : OS} {tp : AT} {sn : AT} {Nw : OS} {La : OS} {St : OS} {Kp : OS} {Kl : OS} {Pr : OX} {Ps : OS} {Lr : OX} {Ll : OS} {Od : OS} {Ln : OS} {Se : OS} {Cu : OS} {Pa : PS} {p0 : Int32} {cO : ClassId} {aO : Nat} {f : Nat → Int64} {post : Int32 → XS × (Nat → Int64) → Prop} (hst : l.stackTraces = false) (h : m_X11_seated (fun E x => E = "java/lang/IndexOutOfBoundsException" ∧ post 1 (x, f)) B tp sn Nw La St Kp Kl Pr Ps Lr Ll Od Ln Se Cu Pa p0 (fun r x => post 0 (x, vp_updL f 0 r.toInt64))) : vx_Met l yL_seated (bH yL_seated cL_seated 4 (some .int) [(0, 9, 12, 24)]) (rmX 8 1) (fP (eW κ) (dOw aO (dX aB aTp aSn aNw aLa aSt aKp aKl aPr aPs aLr aLl aOd aLn aSe aCu aPa)) D (fOw (wX G aB aTp aSn aNw aLa aSt aKp aKl aPr aPs aLr aLl aOd aLn aSe aCu aPa) cO aO) ((cO, .long) :: xT G) sz ((B, tp, sn, Nw, La, St, Kp, Kl, Pr, Ps, Lr, Ll, Od, Ln, Se, Cu, Pa), f) [.ref (aB 0), .int p0, .ref aO]) (va_Qi post (fB D (fOw (wX G aB aTp aSn aNw aLa aSt aKp aKl aPr aPs aLr aLl aOd aLn aSe aCu aPa) cO aO) ((cO, .long) :: xT G) (dOw aO (dX aB aTp aSn aNw aLa aSt aKp aKl aPr aPs aLr aLl aOd aLn aSe aCu aPa)) sz) (fA (dOw aO (dX aB aTp aSn aNw aLa aSt aKp aKl aPr aPs aLr aLl aOd aLn aSe aCu aPa)) sz)) (fun _ _ _ => False) 1 6 (fA (dOw aO (dX aB aTp aSn aNw aLa aSt aKp aKl aPr aPs aLr aLl aOd aLn aSe aCu aPa)) sz) := by
  refine fh_enter (fOw_ax xX).ad (by decide) (Nat.le_of_ble_eq_true rfl) ?_
  intro p e s m below meth c hz K9 hr hk htb I ls hl
  have K := K9.v
  have hx := K.x
  have hb := K.b
  have hl : lv_has ls 4 [(0, .ref (aB 0)), (1, .int p0), (2, .ref aO)] := hl
  refine lv_aload_n hx hb dL_seated_0 rfl (lv_at hl 2 rfl) ?_
  refine lv_iconst hx hb dL_seated_1 rfl ?_
  refine lv_aload_n hx hb dL_seated_2 rfl (lv_at hl 0 rfl) ?_
  refine lv_iload_n hx hb dL_seated_3 rfl (lv_at hl 1 rfl) ?_
  exact wr_one (la := 1) (pg := 15) (As := [.int p0]) xX cwL_seated (c_X11_seated hst h) rfl rfl ⟨Nat.le_of_ble_eq_true rfl, Nat.le_of_ble_eq_true rfl⟩ [1, 2] rfl (va_recv K.k I.1 (ci := 9) (q0 := 1) rfl rfl) rfl hl.1 K hr hk hz I ⟨Nat.le_of_ble_eq_true rfl, Nat.le_of_ble_eq_true rfl⟩ htb (by decide) (by decide) kL1044 nL1056 dL_seated_4 dL_seated_7 dL_seated_8 dL_seated_9 (by decide) (fun H1 locs1 q Q1 k => lv_astore_n hx hb dL_seated_12 rfl hl (by decide) rfl (fun ls9 _ => k ls9)) dL_seated_13 dL_seated_14 dL_seated_15 dL_seated_16
theorem cwL_chase : cwd RL 110 yX11_chase cX11_chase 3 (some .int) 2 := ⟨kL1440, kL1441, kL1442, kL165, kL1443, by decide, by decide, by decide +kernel⟩
set_option maxRecDepth 100000 in
theorem c_L_chase {l : Launch} {κ : EK} {D : va_G} {G : XG} {aB : Nat → Nat} {aTp : Nat} {aSn : Nat} {aNw : Nat → Nat} {aLa : Nat → Nat} {aSt : Nat → Nat} {aKp : Nat → Nat} {aKl : Nat → Nat} {aPr : Nat → Nat} {aPs : Nat → Nat} {aLr : Nat → Nat} {aLl : Nat → Nat} {aOd : Nat → Nat} {aLn : Nat → Nat} {aSe : Nat → Nat} {aCu : Nat → Nat} {aPa : Nat → Nat → Nat} {sz : Nat} {B : OS} {tp : AT} {sn : AT} {Nw : OS} {La : OS} {St : OS} {Kp : OS} {Kl : OS} {Pr : OX} {Ps : OS} {Lr : OX} {Ll : OS} {Od : OS} {Ln : OS} {Se : OS} {Cu : OS} {Pa : PS} {p0 : Int32} {p1 : Int32} {cO : ClassId} {aO : Nat} {f : Nat → Int64} {post : Int32 → XS × (Nat → Int64) → Prop} (hst : l.stackTraces = false) (h : m_X11_chase (fun E x => E = "java/lang/IllegalArgumentException" ∧ post 1 (x, f)) B tp sn Nw La St Kp Kl Pr Ps Lr Ll Od Ln Se Cu Pa p0 p1 (fun r x => post 0 (x, vp_updL f 0 r.toInt64))) : vx_Met l yL_chase (bH yL_chase cL_chase 5 (some .int) [(0, 10, 13, 13)]) (rmX 8 2) (fP (eW κ) (dOw aO (dX aB aTp aSn aNw aLa aSt aKp aKl aPr aPs aLr aLl aOd aLn aSe aCu aPa)) D (fOw (wX G aB aTp aSn aNw aLa aSt aKp aKl aPr aPs aLr aLl aOd aLn aSe aCu aPa) cO aO) ((cO, .long) :: xT G) sz ((B, tp, sn, Nw, La, St, Kp, Kl, Pr, Ps, Lr, Ll, Od, Ln, Se, Cu, Pa), f) [.ref (aB 0), .int p0, .int p1, .ref aO]) (va_Qi post (fB D (fOw (wX G aB aTp aSn aNw aLa aSt aKp aKl aPr aPs aLr aLl aOd aLn aSe aCu aPa) cO aO) ((cO, .long) :: xT G) (dOw aO (dX aB aTp aSn aNw aLa aSt aKp aKl aPr aPs aLr aLl aOd aLn aSe aCu aPa)) sz) (fA (dOw aO (dX aB aTp aSn aNw aLa aSt aKp aKl aPr aPs aLr aLl aOd aLn aSe aCu aPa)) sz)) (fun _ _ _ => False) 2 12 (fA (dOw aO (dX aB aTp aSn aNw aLa aSt aKp aKl aPr aPs aLr aLl aOd aLn aSe aCu aPa)) sz) := by
  refine fh_enter (fOw_ax xX).ad (by decide) (Nat.le_of_ble_eq_true rfl) ?_
  intro p e s m below meth c hz K9 hr hk htb I ls hl
  have K := K9.v
  have hx := K.x
  have hb := K.b
  have hl : lv_has ls 5 [(0, .ref (aB 0)), (1, .int p0), (2, .int p1), (3, .ref aO)] := hl
  refine lv_aload_n hx hb dL_chase_0 rfl (lv_at hl 3 rfl) ?_
  refine lv_iconst hx hb dL_chase_1 rfl ?_
  refine lv_aload_n hx hb dL_chase_2 rfl (lv_at hl 0 rfl) ?_
  refine lv_iload_n hx hb dL_chase_3 rfl (lv_at hl 1 rfl) ?_
  refine lv_iload_n hx hb dL_chase_4 rfl (lv_at hl 2 rfl) ?_
  exact wr_one (la := 2) (pg := 17) (As := [.int p0, .int p1]) xX cwL_chase (c_X11_chase hst h) rfl rfl ⟨Nat.le_of_ble_eq_true rfl, Nat.le_of_ble_eq_true rfl⟩ [1, 2] rfl (va_recv K.k I.1 (ci := 9) (q0 := 1) rfl rfl) rfl hl.1 K hr hk hz I ⟨Nat.le_of_ble_eq_true rfl, Nat.le_of_ble_eq_true rfl⟩ htb (by decide) (by decide) kL708 nL943 dL_chase_5 dL_chase_8 dL_chase_9 dL_chase_10 (by decide) (fun H1 locs1 q Q1 k => lv_astore hx hb dL_chase_13 hl (by decide) rfl (fun ls9 _ => k ls9)) dL_chase_15 dL_chase_16 dL_chase_17 dL_chase_18
theorem cwL_couples : cwd RL 113 yX11_couples cX11_couples 2 (some .int) 1 := ⟨kL1447, kL1448, kL1449, kL165, kL1450, by decide, by decide, by decide +kernel⟩
set_option maxRecDepth 100000 in
theorem c_L_couples {l : Launch} {κ : EK} {D : va_G} {G : XG} {aB : Nat → Nat} {aTp : Nat} {aSn : Nat} {aNw : Nat → Nat} {aLa : Nat → Nat} {aSt : Nat → Nat} {aKp : Nat → Nat} {aKl : Nat → Nat} {aPr : Nat → Nat} {aPs : Nat → Nat} {aLr : Nat → Nat} {aLl : Nat → Nat} {aOd : Nat → Nat} {aLn : Nat → Nat} {aSe : Nat → Nat} {aCu : Nat → Nat} {aPa : Nat → Nat → Nat} {sz : Nat} {B : OS} {tp : AT} {sn : AT} {Nw : OS} {La : OS} {St : OS} {Kp : OS} {Kl : OS} {Pr : OX} {Ps : OS} {Lr : OX} {Ll : OS} {Od : OS} {Ln : OS} {Se : OS} {Cu : OS} {Pa : PS} {p0 : Int32} {cO : ClassId} {aO : Nat} {f : Nat → Int64} {post : Int32 → XS × (Nat → Int64) → Prop} (hst : l.stackTraces = false) (h : m_X11_couples (fun E x => E = "java/lang/IndexOutOfBoundsException" ∧ post 1 (x, f)) B tp sn Nw La St Kp Kl Pr Ps Lr Ll Od Ln Se Cu Pa p0 (fun r x => post 0 (x, vp_updL f 0 r.toInt64))) : vx_Met l yL_couples (bH yL_couples cL_couples 4 (some .int) [(0, 9, 12, 24)]) (rmX 8 1) (fP (eW κ) (dOw aO (dX aB aTp aSn aNw aLa aSt aKp aKl aPr aPs aLr aLl aOd aLn aSe aCu aPa)) D (fOw (wX G aB aTp aSn aNw aLa aSt aKp aKl aPr aPs aLr aLl aOd aLn aSe aCu aPa) cO aO) ((cO, .long) :: xT G) sz ((B, tp, sn, Nw, La, St, Kp, Kl, Pr, Ps, Lr, Ll, Od, Ln, Se, Cu, Pa), f) [.ref (aB 0), .int p0, .ref aO]) (va_Qi post (fB D (fOw (wX G aB aTp aSn aNw aLa aSt aKp aKl aPr aPs aLr aLl aOd aLn aSe aCu aPa) cO aO) ((cO, .long) :: xT G) (dOw aO (dX aB aTp aSn aNw aLa aSt aKp aKl aPr aPs aLr aLl aOd aLn aSe aCu aPa)) sz) (fA (dOw aO (dX aB aTp aSn aNw aLa aSt aKp aKl aPr aPs aLr aLl aOd aLn aSe aCu aPa)) sz)) (fun _ _ _ => False) 1 6 (fA (dOw aO (dX aB aTp aSn aNw aLa aSt aKp aKl aPr aPs aLr aLl aOd aLn aSe aCu aPa)) sz) := by
  refine fh_enter (fOw_ax xX).ad (by decide) (Nat.le_of_ble_eq_true rfl) ?_
  intro p e s m below meth c hz K9 hr hk htb I ls hl
  have K := K9.v
  have hx := K.x
  have hb := K.b
  have hl : lv_has ls 4 [(0, .ref (aB 0)), (1, .int p0), (2, .ref aO)] := hl
  refine lv_aload_n hx hb dL_couples_0 rfl (lv_at hl 2 rfl) ?_
  refine lv_iconst hx hb dL_couples_1 rfl ?_
  refine lv_aload_n hx hb dL_couples_2 rfl (lv_at hl 0 rfl) ?_
  refine lv_iload_n hx hb dL_couples_3 rfl (lv_at hl 1 rfl) ?_
  exact wr_one (la := 1) (pg := 15) (As := [.int p0]) xX cwL_couples (c_X11_couples hst h) rfl rfl ⟨Nat.le_of_ble_eq_true rfl, Nat.le_of_ble_eq_true rfl⟩ [1, 2] rfl (va_recv K.k I.1 (ci := 9) (q0 := 1) rfl rfl) rfl hl.1 K hr hk hz I ⟨Nat.le_of_ble_eq_true rfl, Nat.le_of_ble_eq_true rfl⟩ htb (by decide) (by decide) kL1044 nL1056 dL_couples_4 dL_couples_7 dL_couples_8 dL_couples_9 (by decide) (fun H1 locs1 q Q1 k => lv_astore_n hx hb dL_couples_12 rfl hl (by decide) rfl (fun ls9 _ => k ls9)) dL_couples_13 dL_couples_14 dL_couples_15 dL_couples_16
theorem cwL_rests : cwd RL 116 yX11_rests cX11_rests 8 (some .int) 2 := ⟨kL1477, kL1478, kL1479, kL165, kL1480, by decide, by decide, by decide +kernel⟩
set_option maxRecDepth 100000 in
theorem c_L_rests {l : Launch} {κ : EK} {D : va_G} {G : XG} {aB : Nat → Nat} {aTp : Nat} {aSn : Nat} {aNw : Nat → Nat} {aLa : Nat → Nat} {aSt : Nat → Nat} {aKp : Nat → Nat} {aKl : Nat → Nat} {aPr : Nat → Nat} {aPs : Nat → Nat} {aLr : Nat → Nat} {aLl : Nat → Nat} {aOd : Nat → Nat} {aLn : Nat → Nat} {aSe : Nat → Nat} {aCu : Nat → Nat} {aPa : Nat → Nat → Nat} {sz : Nat} {B : OS} {tp : AT} {sn : AT} {Nw : OS} {La : OS} {St : OS} {Kp : OS} {Kl : OS} {Pr : OX} {Ps : OS} {Lr : OX} {Ll : OS} {Od : OS} {Ln : OS} {Se : OS} {Cu : OS} {Pa : PS} {p0 : Int32} {p1 : Int32} {cO : ClassId} {aO : Nat} {f : Nat → Int64} {post : Int32 → XS × (Nat → Int64) → Prop} (hst : l.stackTraces = false) (h : m_X11_rests (fun E x => (E = "java/lang/IndexOutOfBoundsException" ∧ post 1 (x, f)) ∨ (E = "java/lang/IllegalArgumentException" ∧ post 2 (x, f))) B tp sn Nw La St Kp Kl Pr Ps Lr Ll Od Ln Se Cu Pa p0 p1 (fun r x => post 0 (x, vp_updL f 0 r.toInt64))) : vx_Met l yL_rests (bH yL_rests cL_rests 5 (some .int) [(0, 10, 13, 24), (0, 10, 17, 13)]) (rmX 9 3) (fP (eW κ) (dOw aO (dX aB aTp aSn aNw aLa aSt aKp aKl aPr aPs aLr aLl aOd aLn aSe aCu aPa)) D (fOw (wX G aB aTp aSn aNw aLa aSt aKp aKl aPr aPs aLr aLl aOd aLn aSe aCu aPa) cO aO) ((cO, .long) :: xT G) sz ((B, tp, sn, Nw, La, St, Kp, Kl, Pr, Ps, Lr, Ll, Od, Ln, Se, Cu, Pa), f) [.ref (aB 0), .int p0, .int p1, .ref aO]) (va_Qi post (fB D (fOw (wX G aB aTp aSn aNw aLa aSt aKp aKl aPr aPs aLr aLl aOd aLn aSe aCu aPa) cO aO) ((cO, .long) :: xT G) (dOw aO (dX aB aTp aSn aNw aLa aSt aKp aKl aPr aPs aLr aLl aOd aLn aSe aCu aPa)) sz) (fA (dOw aO (dX aB aTp aSn aNw aLa aSt aKp aKl aPr aPs aLr aLl aOd aLn aSe aCu aPa)) sz)) (fun _ _ _ => False) 3 18 (fA (dOw aO (dX aB aTp aSn aNw aLa aSt aKp aKl aPr aPs aLr aLl aOd aLn aSe aCu aPa)) sz) := by
  refine fh_enter (fOw_ax xX).ad (by decide) (Nat.le_of_ble_eq_true rfl) ?_
  intro p e s m below meth c hz K9 hr hk htb I ls hl
  have K := K9.v
  have hx := K.x
  have hb := K.b
  have hl : lv_has ls 5 [(0, .ref (aB 0)), (1, .int p0), (2, .int p1), (3, .ref aO)] := hl
  refine lv_aload_n hx hb dL_rests_0 rfl (lv_at hl 3 rfl) ?_
  refine lv_iconst hx hb dL_rests_1 rfl ?_
  refine lv_aload_n hx hb dL_rests_2 rfl (lv_at hl 0 rfl) ?_
  refine lv_iload_n hx hb dL_rests_3 rfl (lv_at hl 1 rfl) ?_
  refine lv_iload_n hx hb dL_rests_4 rfl (lv_at hl 2 rfl) ?_
  exact wr_two (la := 2) (la2 := 2) (pg := 21) (As := [.int p0, .int p1]) xX cwL_rests (c_X11_rests hst h) rfl rfl ⟨Nat.le_of_ble_eq_true rfl, Nat.le_of_ble_eq_true rfl⟩ [1, 2] rfl (va_recv K.k I.1 (ci := 9) (q0 := 1) rfl rfl) rfl hl.1 K hr hk hz I ⟨Nat.le_of_ble_eq_true rfl, Nat.le_of_ble_eq_true rfl⟩ htb (by decide) (by decide) kL1044 nL1056 (by decide) kL708 nL943 (K9.nc (by decide)) dL_rests_5 dL_rests_8 dL_rests_9 dL_rests_10 (by decide) (fun H1 locs1 q Q1 k => lv_astore hx hb dL_rests_13 hl (by decide) rfl (fun ls9 _ => k ls9)) dL_rests_15 dL_rests_16 (fun H1 locs1 q Q1 k => lv_astore hx hb dL_rests_17 hl (by decide) rfl (fun ls9 _ => k ls9)) dL_rests_19 dL_rests_20 dL_rests_21 dL_rests_22
theorem cwL_odds : cwd RL 119 yX11_odds cX11_odds 8 (some .int) 2 := ⟨kL1488, kL1489, kL1490, kL165, kL1491, by decide, by decide, by decide +kernel⟩
set_option maxRecDepth 100000 in
theorem c_L_odds {l : Launch} {κ : EK} {D : va_G} {G : XG} {aB : Nat → Nat} {aTp : Nat} {aSn : Nat} {aNw : Nat → Nat} {aLa : Nat → Nat} {aSt : Nat → Nat} {aKp : Nat → Nat} {aKl : Nat → Nat} {aPr : Nat → Nat} {aPs : Nat → Nat} {aLr : Nat → Nat} {aLl : Nat → Nat} {aOd : Nat → Nat} {aLn : Nat → Nat} {aSe : Nat → Nat} {aCu : Nat → Nat} {aPa : Nat → Nat → Nat} {sz : Nat} {B : OS} {tp : AT} {sn : AT} {Nw : OS} {La : OS} {St : OS} {Kp : OS} {Kl : OS} {Pr : OX} {Ps : OS} {Lr : OX} {Ll : OS} {Od : OS} {Ln : OS} {Se : OS} {Cu : OS} {Pa : PS} {p0 : Int32} {p1 : Int32} {cO : ClassId} {aO : Nat} {f : Nat → Int64} {post : Int32 → XS × (Nat → Int64) → Prop} (hst : l.stackTraces = false) (h : m_X11_odds (fun E x => E = "java/lang/IllegalArgumentException" ∧ post 1 (x, f)) B tp sn Nw La St Kp Kl Pr Ps Lr Ll Od Ln Se Cu Pa p0 p1 (fun r x => post 0 (x, vp_updL f 0 r.toInt64))) : vx_Met l yL_odds (bH yL_odds cL_odds 5 (some .int) [(0, 10, 13, 13)]) (rmX 8 2) (fP (eW κ) (dOw aO (dX aB aTp aSn aNw aLa aSt aKp aKl aPr aPs aLr aLl aOd aLn aSe aCu aPa)) D (fOw (wX G aB aTp aSn aNw aLa aSt aKp aKl aPr aPs aLr aLl aOd aLn aSe aCu aPa) cO aO) ((cO, .long) :: xT G) sz ((B, tp, sn, Nw, La, St, Kp, Kl, Pr, Ps, Lr, Ll, Od, Ln, Se, Cu, Pa), f) [.ref (aB 0), .int p0, .int p1, .ref aO]) (va_Qi post (fB D (fOw (wX G aB aTp aSn aNw aLa aSt aKp aKl aPr aPs aLr aLl aOd aLn aSe aCu aPa) cO aO) ((cO, .long) :: xT G) (dOw aO (dX aB aTp aSn aNw aLa aSt aKp aKl aPr aPs aLr aLl aOd aLn aSe aCu aPa)) sz) (fA (dOw aO (dX aB aTp aSn aNw aLa aSt aKp aKl aPr aPs aLr aLl aOd aLn aSe aCu aPa)) sz)) (fun _ _ _ => False) 2 12 (fA (dOw aO (dX aB aTp aSn aNw aLa aSt aKp aKl aPr aPs aLr aLl aOd aLn aSe aCu aPa)) sz) := by
  refine fh_enter (fOw_ax xX).ad (by decide) (Nat.le_of_ble_eq_true rfl) ?_
  intro p e s m below meth c hz K9 hr hk htb I ls hl
  have K := K9.v
  have hx := K.x
  have hb := K.b
  have hl : lv_has ls 5 [(0, .ref (aB 0)), (1, .int p0), (2, .int p1), (3, .ref aO)] := hl
  refine lv_aload_n hx hb dL_odds_0 rfl (lv_at hl 3 rfl) ?_
  refine lv_iconst hx hb dL_odds_1 rfl ?_
  refine lv_aload_n hx hb dL_odds_2 rfl (lv_at hl 0 rfl) ?_
  refine lv_iload_n hx hb dL_odds_3 rfl (lv_at hl 1 rfl) ?_
  refine lv_iload_n hx hb dL_odds_4 rfl (lv_at hl 2 rfl) ?_
  exact wr_one (la := 2) (pg := 17) (As := [.int p0, .int p1]) xX cwL_odds (c_X11_odds hst h) rfl rfl ⟨Nat.le_of_ble_eq_true rfl, Nat.le_of_ble_eq_true rfl⟩ [1, 2] rfl (va_recv K.k I.1 (ci := 9) (q0 := 1) rfl rfl) rfl hl.1 K hr hk hz I ⟨Nat.le_of_ble_eq_true rfl, Nat.le_of_ble_eq_true rfl⟩ htb (by decide) (by decide) kL708 nL943 dL_odds_5 dL_odds_8 dL_odds_9 dL_odds_10 (by decide) (fun H1 locs1 q Q1 k => lv_astore hx hb dL_odds_13 hl (by decide) rfl (fun ls9 _ => k ls9)) dL_odds_15 dL_odds_16 dL_odds_17 dL_odds_18
theorem cwL_bunch : cwd RL 122 yX11_bunch cX11_bunch 4 (some .int) 1 := ⟨kL1502, kL1503, kL1504, kL165, kL1505, by decide, by decide, by decide +kernel⟩
set_option maxRecDepth 100000 in
theorem c_L_bunch {l : Launch} {κ : EK} {D : va_G} {G : XG} {aB : Nat → Nat} {aTp : Nat} {aSn : Nat} {aNw : Nat → Nat} {aLa : Nat → Nat} {aSt : Nat → Nat} {aKp : Nat → Nat} {aKl : Nat → Nat} {aPr : Nat → Nat} {aPs : Nat → Nat} {aLr : Nat → Nat} {aLl : Nat → Nat} {aOd : Nat → Nat} {aLn : Nat → Nat} {aSe : Nat → Nat} {aCu : Nat → Nat} {aPa : Nat → Nat → Nat} {sz : Nat} {B : OS} {tp : AT} {sn : AT} {Nw : OS} {La : OS} {St : OS} {Kp : OS} {Kl : OS} {Pr : OX} {Ps : OS} {Lr : OX} {Ll : OS} {Od : OS} {Ln : OS} {Se : OS} {Cu : OS} {Pa : PS} {p0 : Int32} {cO : ClassId} {aO : Nat} {f : Nat → Int64} {post : Int32 → XS × (Nat → Int64) → Prop} (hst : l.stackTraces = false) (h : m_X11_bunch (fun E x => E = "java/lang/IllegalArgumentException" ∧ post 1 (x, f)) B tp sn Nw La St Kp Kl Pr Ps Lr Ll Od Ln Se Cu Pa p0 (fun r x => post 0 (x, vp_updL f 0 r.toInt64))) : vx_Met l yL_bunch (bH yL_bunch cL_bunch 4 (some .int) [(0, 9, 12, 13)]) (rmX 8 1) (fP (eW κ) (dOw aO (dX aB aTp aSn aNw aLa aSt aKp aKl aPr aPs aLr aLl aOd aLn aSe aCu aPa)) D (fOw (wX G aB aTp aSn aNw aLa aSt aKp aKl aPr aPs aLr aLl aOd aLn aSe aCu aPa) cO aO) ((cO, .long) :: xT G) sz ((B, tp, sn, Nw, La, St, Kp, Kl, Pr, Ps, Lr, Ll, Od, Ln, Se, Cu, Pa), f) [.ref (aB 0), .int p0, .ref aO]) (va_Qi post (fB D (fOw (wX G aB aTp aSn aNw aLa aSt aKp aKl aPr aPs aLr aLl aOd aLn aSe aCu aPa) cO aO) ((cO, .long) :: xT G) (dOw aO (dX aB aTp aSn aNw aLa aSt aKp aKl aPr aPs aLr aLl aOd aLn aSe aCu aPa)) sz) (fA (dOw aO (dX aB aTp aSn aNw aLa aSt aKp aKl aPr aPs aLr aLl aOd aLn aSe aCu aPa)) sz)) (fun _ _ _ => False) 1 6 (fA (dOw aO (dX aB aTp aSn aNw aLa aSt aKp aKl aPr aPs aLr aLl aOd aLn aSe aCu aPa)) sz) := by
  refine fh_enter (fOw_ax xX).ad (by decide) (Nat.le_of_ble_eq_true rfl) ?_
  intro p e s m below meth c hz K9 hr hk htb I ls hl
  have K := K9.v
  have hx := K.x
  have hb := K.b
  have hl : lv_has ls 4 [(0, .ref (aB 0)), (1, .int p0), (2, .ref aO)] := hl
  refine lv_aload_n hx hb dL_bunch_0 rfl (lv_at hl 2 rfl) ?_
  refine lv_iconst hx hb dL_bunch_1 rfl ?_
  refine lv_aload_n hx hb dL_bunch_2 rfl (lv_at hl 0 rfl) ?_
  refine lv_iload_n hx hb dL_bunch_3 rfl (lv_at hl 1 rfl) ?_
  exact wr_one (la := 1) (pg := 15) (As := [.int p0]) xX cwL_bunch (c_X11_bunch hst h) rfl rfl ⟨Nat.le_of_ble_eq_true rfl, Nat.le_of_ble_eq_true rfl⟩ [1, 2] rfl (va_recv K.k I.1 (ci := 9) (q0 := 1) rfl rfl) rfl hl.1 K hr hk hz I ⟨Nat.le_of_ble_eq_true rfl, Nat.le_of_ble_eq_true rfl⟩ htb (by decide) (by decide) kL708 nL943 dL_bunch_4 dL_bunch_7 dL_bunch_8 dL_bunch_9 (by decide) (fun H1 locs1 q Q1 k => lv_astore_n hx hb dL_bunch_12 rfl hl (by decide) rfl (fun ls9 _ => k ls9)) dL_bunch_13 dL_bunch_14 dL_bunch_15 dL_bunch_16
theorem cwL_trial : cwd RL 125 yX11_trial cX11_trial 4 (some .int) 2 := ⟨kL1509, kL1510, kL1511, kL165, kL1512, by decide, by decide, by decide +kernel⟩
set_option maxRecDepth 100000 in
theorem c_L_trial {l : Launch} {κ : EK} {D : va_G} {G : XG} {aB : Nat → Nat} {aTp : Nat} {aSn : Nat} {aNw : Nat → Nat} {aLa : Nat → Nat} {aSt : Nat → Nat} {aKp : Nat → Nat} {aKl : Nat → Nat} {aPr : Nat → Nat} {aPs : Nat → Nat} {aLr : Nat → Nat} {aLl : Nat → Nat} {aOd : Nat → Nat} {aLn : Nat → Nat} {aSe : Nat → Nat} {aCu : Nat → Nat} {aPa : Nat → Nat → Nat} {sz : Nat} {B : OS} {tp : AT} {sn : AT} {Nw : OS} {La : OS} {St : OS} {Kp : OS} {Kl : OS} {Pr : OX} {Ps : OS} {Lr : OX} {Ll : OS} {Od : OS} {Ln : OS} {Se : OS} {Cu : OS} {Pa : PS} {p0 : Int32} {p1 : Int32} {cO : ClassId} {aO : Nat} {f : Nat → Int64} {post : Int32 → XS × (Nat → Int64) → Prop} (hst : l.stackTraces = false) (h : m_X11_trial (fun E x => E = "java/lang/IllegalArgumentException" ∧ post 1 (x, f)) B tp sn Nw La St Kp Kl Pr Ps Lr Ll Od Ln Se Cu Pa p0 p1 (fun r x => post 0 (x, vp_updL f 0 r.toInt64))) : vx_Met l yL_trial (bH yL_trial cL_trial 5 (some .int) [(0, 10, 13, 13)]) (rmX 8 1) (fP (eW κ) (dOw aO (dX aB aTp aSn aNw aLa aSt aKp aKl aPr aPs aLr aLl aOd aLn aSe aCu aPa)) D (fOw (wX G aB aTp aSn aNw aLa aSt aKp aKl aPr aPs aLr aLl aOd aLn aSe aCu aPa) cO aO) ((cO, .long) :: xT G) sz ((B, tp, sn, Nw, La, St, Kp, Kl, Pr, Ps, Lr, Ll, Od, Ln, Se, Cu, Pa), f) [.ref (aB 0), .int p0, .int p1, .ref aO]) (va_Qi post (fB D (fOw (wX G aB aTp aSn aNw aLa aSt aKp aKl aPr aPs aLr aLl aOd aLn aSe aCu aPa) cO aO) ((cO, .long) :: xT G) (dOw aO (dX aB aTp aSn aNw aLa aSt aKp aKl aPr aPs aLr aLl aOd aLn aSe aCu aPa)) sz) (fA (dOw aO (dX aB aTp aSn aNw aLa aSt aKp aKl aPr aPs aLr aLl aOd aLn aSe aCu aPa)) sz)) (fun _ _ _ => False) 1 6 (fA (dOw aO (dX aB aTp aSn aNw aLa aSt aKp aKl aPr aPs aLr aLl aOd aLn aSe aCu aPa)) sz) := by
  refine fh_enter (fOw_ax xX).ad (by decide) (Nat.le_of_ble_eq_true rfl) ?_
  intro p e s m below meth c hz K9 hr hk htb I ls hl
  have K := K9.v
  have hx := K.x
  have hb := K.b
  have hl : lv_has ls 5 [(0, .ref (aB 0)), (1, .int p0), (2, .int p1), (3, .ref aO)] := hl
  refine lv_aload_n hx hb dL_trial_0 rfl (lv_at hl 3 rfl) ?_
  refine lv_iconst hx hb dL_trial_1 rfl ?_
  refine lv_aload_n hx hb dL_trial_2 rfl (lv_at hl 0 rfl) ?_
  refine lv_iload_n hx hb dL_trial_3 rfl (lv_at hl 1 rfl) ?_
  refine lv_iload_n hx hb dL_trial_4 rfl (lv_at hl 2 rfl) ?_
  exact wr_one (la := 2) (pg := 17) (As := [.int p0, .int p1]) xX cwL_trial (c_X11_trial hst h) rfl rfl ⟨Nat.le_of_ble_eq_true rfl, Nat.le_of_ble_eq_true rfl⟩ [1, 2] rfl (va_recv K.k I.1 (ci := 9) (q0 := 1) rfl rfl) rfl hl.1 K hr hk hz I ⟨Nat.le_of_ble_eq_true rfl, Nat.le_of_ble_eq_true rfl⟩ htb (by decide) (by decide) kL708 nL943 dL_trial_5 dL_trial_8 dL_trial_9 dL_trial_10 (by decide) (fun H1 locs1 q Q1 k => lv_astore hx hb dL_trial_13 hl (by decide) rfl (fun ls9 _ => k ls9)) dL_trial_15 dL_trial_16 dL_trial_17 dL_trial_18
theorem cwL_span : cwd RL 129 yX11_span cX11_span 6 (some .int) 2 := ⟨kL1520, kL1521, kL1522, kL165, kL1523, by decide, by decide, by decide +kernel⟩
set_option maxRecDepth 100000 in
theorem c_L_span {l : Launch} {κ : EK} {D : va_G} {G : XG} {aB : Nat → Nat} {aTp : Nat} {aSn : Nat} {aNw : Nat → Nat} {aLa : Nat → Nat} {aSt : Nat → Nat} {aKp : Nat → Nat} {aKl : Nat → Nat} {aPr : Nat → Nat} {aPs : Nat → Nat} {aLr : Nat → Nat} {aLl : Nat → Nat} {aOd : Nat → Nat} {aLn : Nat → Nat} {aSe : Nat → Nat} {aCu : Nat → Nat} {aPa : Nat → Nat → Nat} {sz : Nat} {B : OS} {tp : AT} {sn : AT} {Nw : OS} {La : OS} {St : OS} {Kp : OS} {Kl : OS} {Pr : OX} {Ps : OS} {Lr : OX} {Ll : OS} {Od : OS} {Ln : OS} {Se : OS} {Cu : OS} {Pa : PS} {p0 : Int32} {p1 : Int32} {cO : ClassId} {aO : Nat} {f : Nat → Int64} {post : Int32 → XS × (Nat → Int64) → Prop} (hst : l.stackTraces = false) (h : m_X11_span (fun E x => E = "java/lang/IllegalArgumentException" ∧ post 1 (x, f)) B tp sn Nw La St Kp Kl Pr Ps Lr Ll Od Ln Se Cu Pa p0 p1 (fun r x => post 0 (x, vp_updL f 0 r.toInt64))) : vx_Met l yL_span (bH yL_span cL_span 5 (some .int) [(0, 10, 13, 13)]) (rmX 8 1) (fP (eW κ) (dOw aO (dX aB aTp aSn aNw aLa aSt aKp aKl aPr aPs aLr aLl aOd aLn aSe aCu aPa)) D (fOw (wX G aB aTp aSn aNw aLa aSt aKp aKl aPr aPs aLr aLl aOd aLn aSe aCu aPa) cO aO) ((cO, .long) :: xT G) sz ((B, tp, sn, Nw, La, St, Kp, Kl, Pr, Ps, Lr, Ll, Od, Ln, Se, Cu, Pa), f) [.ref (aB 0), .int p0, .int p1, .ref aO]) (va_Qi post (fB D (fOw (wX G aB aTp aSn aNw aLa aSt aKp aKl aPr aPs aLr aLl aOd aLn aSe aCu aPa) cO aO) ((cO, .long) :: xT G) (dOw aO (dX aB aTp aSn aNw aLa aSt aKp aKl aPr aPs aLr aLl aOd aLn aSe aCu aPa)) sz) (fA (dOw aO (dX aB aTp aSn aNw aLa aSt aKp aKl aPr aPs aLr aLl aOd aLn aSe aCu aPa)) sz)) (fun _ _ _ => False) 1 6 (fA (dOw aO (dX aB aTp aSn aNw aLa aSt aKp aKl aPr aPs aLr aLl aOd aLn aSe aCu aPa)) sz) := by
  refine fh_enter (fOw_ax xX).ad (by decide) (Nat.le_of_ble_eq_true rfl) ?_
  intro p e s m below meth c hz K9 hr hk htb I ls hl
  have K := K9.v
  have hx := K.x
  have hb := K.b
  have hl : lv_has ls 5 [(0, .ref (aB 0)), (1, .int p0), (2, .int p1), (3, .ref aO)] := hl
  refine lv_aload_n hx hb dL_span_0 rfl (lv_at hl 3 rfl) ?_
  refine lv_iconst hx hb dL_span_1 rfl ?_
  refine lv_aload_n hx hb dL_span_2 rfl (lv_at hl 0 rfl) ?_
  refine lv_iload_n hx hb dL_span_3 rfl (lv_at hl 1 rfl) ?_
  refine lv_iload_n hx hb dL_span_4 rfl (lv_at hl 2 rfl) ?_
  exact wr_one (la := 2) (pg := 17) (As := [.int p0, .int p1]) xX cwL_span (c_X11_span hst h) rfl rfl ⟨Nat.le_of_ble_eq_true rfl, Nat.le_of_ble_eq_true rfl⟩ [1, 2] rfl (va_recv K.k I.1 (ci := 9) (q0 := 1) rfl rfl) rfl hl.1 K hr hk hz I ⟨Nat.le_of_ble_eq_true rfl, Nat.le_of_ble_eq_true rfl⟩ htb (by decide) (by decide) kL708 nL943 dL_span_5 dL_span_8 dL_span_9 dL_span_10 (by decide) (fun H1 locs1 q Q1 k => lv_astore hx hb dL_span_13 hl (by decide) rfl (fun ls9 _ => k ls9)) dL_span_15 dL_span_16 dL_span_17 dL_span_18
theorem cwL_led : cwd RL 132 yX11_led cX11_led 5 (some .int) 2 := ⟨kL1527, kL1528, kL1529, kL165, kL1530, by decide, by decide, by decide +kernel⟩
set_option maxRecDepth 100000 in
theorem c_L_led {l : Launch} {κ : EK} {D : va_G} {G : XG} {aB : Nat → Nat} {aTp : Nat} {aSn : Nat} {aNw : Nat → Nat} {aLa : Nat → Nat} {aSt : Nat → Nat} {aKp : Nat → Nat} {aKl : Nat → Nat} {aPr : Nat → Nat} {aPs : Nat → Nat} {aLr : Nat → Nat} {aLl : Nat → Nat} {aOd : Nat → Nat} {aLn : Nat → Nat} {aSe : Nat → Nat} {aCu : Nat → Nat} {aPa : Nat → Nat → Nat} {sz : Nat} {B : OS} {tp : AT} {sn : AT} {Nw : OS} {La : OS} {St : OS} {Kp : OS} {Kl : OS} {Pr : OX} {Ps : OS} {Lr : OX} {Ll : OS} {Od : OS} {Ln : OS} {Se : OS} {Cu : OS} {Pa : PS} {p0 : Int32} {p1 : Int32} {cO : ClassId} {aO : Nat} {f : Nat → Int64} {post : Int32 → XS × (Nat → Int64) → Prop} (hst : l.stackTraces = false) (h : m_X11_led (fun E x => E = "java/lang/IndexOutOfBoundsException" ∧ post 1 (x, f)) B tp sn Nw La St Kp Kl Pr Ps Lr Ll Od Ln Se Cu Pa p0 p1 (fun r x => post 0 (x, vp_updL f 0 r.toInt64))) : vx_Met l yL_led (bH yL_led cL_led 5 (some .int) [(0, 10, 13, 24)]) (rmX 8 1) (fP (eW κ) (dOw aO (dX aB aTp aSn aNw aLa aSt aKp aKl aPr aPs aLr aLl aOd aLn aSe aCu aPa)) D (fOw (wX G aB aTp aSn aNw aLa aSt aKp aKl aPr aPs aLr aLl aOd aLn aSe aCu aPa) cO aO) ((cO, .long) :: xT G) sz ((B, tp, sn, Nw, La, St, Kp, Kl, Pr, Ps, Lr, Ll, Od, Ln, Se, Cu, Pa), f) [.ref (aB 0), .int p0, .int p1, .ref aO]) (va_Qi post (fB D (fOw (wX G aB aTp aSn aNw aLa aSt aKp aKl aPr aPs aLr aLl aOd aLn aSe aCu aPa) cO aO) ((cO, .long) :: xT G) (dOw aO (dX aB aTp aSn aNw aLa aSt aKp aKl aPr aPs aLr aLl aOd aLn aSe aCu aPa)) sz) (fA (dOw aO (dX aB aTp aSn aNw aLa aSt aKp aKl aPr aPs aLr aLl aOd aLn aSe aCu aPa)) sz)) (fun _ _ _ => False) 1 6 (fA (dOw aO (dX aB aTp aSn aNw aLa aSt aKp aKl aPr aPs aLr aLl aOd aLn aSe aCu aPa)) sz) := by
  refine fh_enter (fOw_ax xX).ad (by decide) (Nat.le_of_ble_eq_true rfl) ?_
  intro p e s m below meth c hz K9 hr hk htb I ls hl
  have K := K9.v
  have hx := K.x
  have hb := K.b
  have hl : lv_has ls 5 [(0, .ref (aB 0)), (1, .int p0), (2, .int p1), (3, .ref aO)] := hl
  refine lv_aload_n hx hb dL_led_0 rfl (lv_at hl 3 rfl) ?_
  refine lv_iconst hx hb dL_led_1 rfl ?_
  refine lv_aload_n hx hb dL_led_2 rfl (lv_at hl 0 rfl) ?_
  refine lv_iload_n hx hb dL_led_3 rfl (lv_at hl 1 rfl) ?_
  refine lv_iload_n hx hb dL_led_4 rfl (lv_at hl 2 rfl) ?_
  exact wr_one (la := 2) (pg := 17) (As := [.int p0, .int p1]) xX cwL_led (c_X11_led hst h) rfl rfl ⟨Nat.le_of_ble_eq_true rfl, Nat.le_of_ble_eq_true rfl⟩ [1, 2] rfl (va_recv K.k I.1 (ci := 9) (q0 := 1) rfl rfl) rfl hl.1 K hr hk hz I ⟨Nat.le_of_ble_eq_true rfl, Nat.le_of_ble_eq_true rfl⟩ htb (by decide) (by decide) kL1044 nL1056 dL_led_5 dL_led_8 dL_led_9 dL_led_10 (by decide) (fun H1 locs1 q Q1 k => lv_astore hx hb dL_led_13 hl (by decide) rfl (fun ls9 _ => k ls9)) dL_led_15 dL_led_16 dL_led_17 dL_led_18
theorem cwL_log : cwd RL 135 yX11_log cX11_log 3 (some .int) 2 := ⟨kL1541, kL1542, kL1543, kL165, kL1544, by decide, by decide, by decide +kernel⟩
set_option maxRecDepth 100000 in
theorem c_L_log {l : Launch} {κ : EK} {D : va_G} {G : XG} {aB : Nat → Nat} {aTp : Nat} {aSn : Nat} {aNw : Nat → Nat} {aLa : Nat → Nat} {aSt : Nat → Nat} {aKp : Nat → Nat} {aKl : Nat → Nat} {aPr : Nat → Nat} {aPs : Nat → Nat} {aLr : Nat → Nat} {aLl : Nat → Nat} {aOd : Nat → Nat} {aLn : Nat → Nat} {aSe : Nat → Nat} {aCu : Nat → Nat} {aPa : Nat → Nat → Nat} {sz : Nat} {B : OS} {tp : AT} {sn : AT} {Nw : OS} {La : OS} {St : OS} {Kp : OS} {Kl : OS} {Pr : OX} {Ps : OS} {Lr : OX} {Ll : OS} {Od : OS} {Ln : OS} {Se : OS} {Cu : OS} {Pa : PS} {p0 : Int32} {p1 : Int32} {cO : ClassId} {aO : Nat} {f : Nat → Int64} {post : Int32 → XS × (Nat → Int64) → Prop} (hst : l.stackTraces = false) (h : m_X11_log (fun E x => E = "java/util/NoSuchElementException" ∧ post 1 (x, f)) B tp sn Nw La St Kp Kl Pr Ps Lr Ll Od Ln Se Cu Pa p0 p1 (fun r x => post 0 (x, vp_updL f 0 r.toInt64))) : vx_Met l yL_log (bH yL_log cL_log 5 (some .int) [(0, 10, 13, 26)]) (rmX 7 1) (fP (eW κ) (dOw aO (dX aB aTp aSn aNw aLa aSt aKp aKl aPr aPs aLr aLl aOd aLn aSe aCu aPa)) D (fOw (wX G aB aTp aSn aNw aLa aSt aKp aKl aPr aPs aLr aLl aOd aLn aSe aCu aPa) cO aO) ((cO, .long) :: xT G) sz ((B, tp, sn, Nw, La, St, Kp, Kl, Pr, Ps, Lr, Ll, Od, Ln, Se, Cu, Pa), f) [.ref (aB 0), .int p0, .int p1, .ref aO]) (va_Qi post (fB D (fOw (wX G aB aTp aSn aNw aLa aSt aKp aKl aPr aPs aLr aLl aOd aLn aSe aCu aPa) cO aO) ((cO, .long) :: xT G) (dOw aO (dX aB aTp aSn aNw aLa aSt aKp aKl aPr aPs aLr aLl aOd aLn aSe aCu aPa)) sz) (fA (dOw aO (dX aB aTp aSn aNw aLa aSt aKp aKl aPr aPs aLr aLl aOd aLn aSe aCu aPa)) sz)) (fun _ _ _ => False) 1 6 (fA (dOw aO (dX aB aTp aSn aNw aLa aSt aKp aKl aPr aPs aLr aLl aOd aLn aSe aCu aPa)) sz) := by
  refine fh_enter (fOw_ax xX).ad (by decide) (Nat.le_of_ble_eq_true rfl) ?_
  intro p e s m below meth c hz K9 hr hk htb I ls hl
  have K := K9.v
  have hx := K.x
  have hb := K.b
  have hl : lv_has ls 5 [(0, .ref (aB 0)), (1, .int p0), (2, .int p1), (3, .ref aO)] := hl
  refine lv_aload_n hx hb dL_log_0 rfl (lv_at hl 3 rfl) ?_
  refine lv_iconst hx hb dL_log_1 rfl ?_
  refine lv_aload_n hx hb dL_log_2 rfl (lv_at hl 0 rfl) ?_
  refine lv_iload_n hx hb dL_log_3 rfl (lv_at hl 1 rfl) ?_
  refine lv_iload_n hx hb dL_log_4 rfl (lv_at hl 2 rfl) ?_
  exact wr_one (la := 2) (pg := 17) (As := [.int p0, .int p1]) xX cwL_log (c_X11_log hst h) rfl rfl ⟨Nat.le_of_ble_eq_true rfl, Nat.le_of_ble_eq_true rfl⟩ [1, 2] rfl (va_recv K.k I.1 (ci := 9) (q0 := 1) rfl rfl) rfl hl.1 K hr hk hz I ⟨Nat.le_of_ble_eq_true rfl, Nat.le_of_ble_eq_true rfl⟩ htb (by decide) (by decide) kL1045 nL1117 dL_log_5 dL_log_8 dL_log_9 dL_log_10 (by decide) (fun H1 locs1 q Q1 k => lv_astore hx hb dL_log_13 hl (by decide) rfl (fun ls9 _ => k ls9)) dL_log_15 dL_log_16 dL_log_17 dL_log_18
