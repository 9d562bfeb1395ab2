theorem lk_236 : Cond.fieldLink RX8 9 "PromenadeRing$Scene" "yardsRound" "I" ∈ bW := bW_mem 236 (by decide +kernel) (by decide +kernel)
theorem lk_1186 : Cond.constant RX8 112 1103515245 ∈ bW := bW_mem 1186 (by decide +kernel) (by decide +kernel)
theorem lk_252 : Cond.fieldLink RX8 28 "PromenadeRing$Scene" "seed" "I" ∈ bW := bW_mem 252 (by decide +kernel) (by decide +kernel)
theorem lk_246 : Cond.fieldLink RX8 21 "PromenadeRing$Scene" "mist" "I" ∈ bW := bW_mem 246 (by decide +kernel) (by decide +kernel)
theorem lk_249 : Cond.fieldLink RX8 24 "PromenadeRing$Scene" "misty" "Z" ∈ bW := bW_mem 249 (by decide +kernel) (by decide +kernel)
theorem lk_256 : Cond.fieldLink RX8 34 "PromenadeRing$Scene" "walkers" "I" ∈ bW := bW_mem 256 (by decide +kernel) (by decide +kernel)
theorem lk_268 : Cond.fieldLink RX8 43 "PromenadeRing$Scene" "at" "[I" ∈ bW := bW_mem 268 (by decide +kernel) (by decide +kernel)
theorem lk_589 : Cond.methodLink RX8 91 yX8_yards ∈ bW := bW_mem 589 (by decide +kernel) (by decide +kernel)
theorem lk_168 : Cond.initialized RX8 ∈ bW := bW_mem 168 (by decide +kernel) (by decide +kernel)
theorem lk_592 : Cond.code yX8_yards cX8_yards 4 (some .int) ∈ bW := bW_mem 592 (by decide +kernel) (by decide +kernel)
theorem lk_591 : Cond.instanceMethod yX8_yards ∈ bW := bW_mem 591 (by decide +kernel) (by decide +kernel)
theorem lk_6 : Cond.selects RX8 yX8_yards yX8_yards ∈ bW := bW_mem 6 (by decide +kernel) (by decide +kernel)
theorem lk_682 : Cond.methodLink RX8 95 Lib.Math.min.name ∈ bW := bW_mem 682 (by decide +kernel) (by decide +kernel)
theorem lk_275 : Cond.fieldLink RX8 50 "PromenadeRing$Scene" "shuns" "[I" ∈ bW := bW_mem 275 (by decide +kernel) (by decide +kernel)
theorem lk_279 : Cond.fieldLink RX8 53 "PromenadeRing$Scene" "hats" "[I" ∈ bW := bW_mem 279 (by decide +kernel) (by decide +kernel)
theorem lk_1114 : Cond.methodLink RX8 121 yX8_allHats ∈ bW := bW_mem 1114 (by decide +kernel) (by decide +kernel)
theorem lk_547 : Cond.code yX8_allHats cX8_allHats 3 (some .int) ∈ bW := bW_mem 547 (by decide +kernel) (by decide +kernel)
theorem lk_546 : Cond.instanceMethod yX8_allHats ∈ bW := bW_mem 546 (by decide +kernel) (by decide +kernel)
theorem lk_1 : Cond.selects RX8 yX8_allHats yX8_allHats ∈ bW := bW_mem 1 (by decide +kernel) (by decide +kernel)
theorem lk_272 : Cond.fieldLink RX8 47 "PromenadeRing$Scene" "pace" "[I" ∈ bW := bW_mem 272 (by decide +kernel) (by decide +kernel)
theorem lk_1102 : Cond.methodLink RX8 104 yX8_placeOf ∈ bW := bW_mem 1102 (by decide +kernel) (by decide +kernel)
theorem lk_1105 : Cond.code yX8_placeOf cX8_placeOf 2 (some .int) ∈ bW := bW_mem 1105 (by decide +kernel) (by decide +kernel)
theorem lk_1104 : Cond.instanceMethod yX8_placeOf ∈ bW := bW_mem 1104 (by decide +kernel) (by decide +kernel)
theorem lk_44 : Cond.selects RX8 yX8_placeOf yX8_placeOf ∈ bW := bW_mem 44 (by decide +kernel) (by decide +kernel)
theorem lk_265 : Cond.fieldLink RX8 40 "PromenadeRing$Scene" "inBlack" "I" ∈ bW := bW_mem 265 (by decide +kernel) (by decide +kernel)
theorem lk_661 : Cond.methodLink RX8 125 Lib.Math.max.name ∈ bW := bW_mem 661 (by decide +kernel) (by decide +kernel)
theorem lk_261 : Cond.fieldLink RX8 37 "PromenadeRing$Scene" "shelters" "I" ∈ bW := bW_mem 261 (by decide +kernel) (by decide +kernel)
theorem lk_285 : Cond.fieldLink RX8 62 "PromenadeRing$Scene" "stand" "[I" ∈ bW := bW_mem 285 (by decide +kernel) (by decide +kernel)
theorem lk_1151 : Cond.methodLink RX8 128 yX8_everyShelter ∈ bW := bW_mem 1151 (by decide +kernel) (by decide +kernel)
theorem lk_611 : Cond.code yX8_everyShelter cX8_everyShelter 1 (some .int) ∈ bW := bW_mem 611 (by decide +kernel) (by decide +kernel)
theorem lk_610 : Cond.instanceMethod yX8_everyShelter ∈ bW := bW_mem 610 (by decide +kernel) (by decide +kernel)
theorem lk_8 : Cond.selects RX8 yX8_everyShelter yX8_everyShelter ∈ bW := bW_mem 8 (by decide +kernel) (by decide +kernel)
theorem lk_1152 : Cond.methodLink RX8 131 yX8_farOf ∈ bW := bW_mem 1152 (by decide +kernel) (by decide +kernel)
theorem lk_615 : Cond.code yX8_farOf cX8_farOf 6 (some .int) ∈ bW := bW_mem 615 (by decide +kernel) (by decide +kernel)
theorem lk_614 : Cond.instanceMethod yX8_farOf ∈ bW := bW_mem 614 (by decide +kernel) (by decide +kernel)
theorem lk_9 : Cond.selects RX8 yX8_farOf yX8_farOf ∈ bW := bW_mem 9 (by decide +kernel) (by decide +kernel)
theorem lk_281 : Cond.fieldLink RX8 56 "PromenadeRing$Scene" "rounds" "[I" ∈ bW := bW_mem 281 (by decide +kernel) (by decide +kernel)
theorem lk_283 : Cond.fieldLink RX8 59 "PromenadeRing$Scene" "met" "[I" ∈ bW := bW_mem 283 (by decide +kernel) (by decide +kernel)
theorem lk_240 : Cond.fieldLink RX8 15 "PromenadeRing$Scene" "band" "I" ∈ bW := bW_mem 240 (by decide +kernel) (by decide +kernel)
theorem lk_678 : Cond.methodLink RX8 113 yX8_yardsAhead ∈ bW := bW_mem 678 (by decide +kernel) (by decide +kernel)
theorem lk_681 : Cond.code yX8_yardsAhead cX8_yardsAhead 4 (some .int) ∈ bW := bW_mem 681 (by decide +kernel) (by decide +kernel)
theorem lk_680 : Cond.instanceMethod yX8_yardsAhead ∈ bW := bW_mem 680 (by decide +kernel) (by decide +kernel)
theorem lk_20 : Cond.selects RX8 yX8_yardsAhead yX8_yardsAhead ∈ bW := bW_mem 20 (by decide +kernel) (by decide +kernel)
theorem lk_685 : Cond.methodLink RX8 116 yJ6_bitCount_0f7a4 ∈ bW := bW_mem 685 (by decide +kernel) (by decide +kernel)
theorem lk_225 : Cond.fieldLink RX5 15 "PromenadeRing$Log" "size" "I" ∈ bW := bW_mem 225 (by decide +kernel) (by decide +kernel)
theorem lk_224 : Cond.fieldLink RX5 9 "PromenadeRing$Log" "rows" "[I" ∈ bW := bW_mem 224 (by decide +kernel) (by decide +kernel)
theorem lk_227 : Cond.fieldLink RX5 19 "PromenadeRing$Log" "next" "I" ∈ bW := bW_mem 227 (by decide +kernel) (by decide +kernel)
theorem lk_1535 : Cond.methodLink RX5 34 yJ9_floorMod_7cf53 ∈ bW := bW_mem 1535 (by decide +kernel) (by decide +kernel)
theorem lk_1537 : Cond.code yJ9_floorMod_7cf53 cJ9_floorMod_7cf53 3 (some .int) ∈ bW := bW_mem 1537 (by decide +kernel) (by decide +kernel)
theorem lk_1536 : Cond.static yJ9_floorMod_7cf53 ∈ bW := bW_mem 1536 (by decide +kernel) (by decide +kernel)
theorem lk_1101 : Cond.methodLink RX5 28 Lib.Math.min.name ∈ bW := bW_mem 1101 (by decide +kernel) (by decide +kernel)
theorem lk_567 : Cond.methodLink RX5 22 arraycopyName ∈ bW := bW_mem 567 (by decide +kernel) (by decide +kernel)
theorem lk_562 : Cond.native arraycopyName ∈ bW := bW_mem 562 (by decide +kernel) (by decide +kernel)
theorem lk_561 : Cond.static arraycopyName ∈ bW := bW_mem 561 (by decide +kernel) (by decide +kernel)
theorem lk_177 : Cond.initialized "java/lang/System" ∈ bW := bW_mem 177 (by decide +kernel) (by decide +kernel)
theorem lk_243 : Cond.fieldLink RX8 18 "PromenadeRing$Scene" "hour" "I" ∈ bW := bW_mem 243 (by decide +kernel) (by decide +kernel)
theorem lk_254 : Cond.fieldLink RX8 31 "PromenadeRing$Scene" "texts" "I" ∈ bW := bW_mem 254 (by decide +kernel) (by decide +kernel)
theorem lk_289 : Cond.fieldLink RX8 65 "PromenadeRing$Scene" "seats" "[I" ∈ bW := bW_mem 289 (by decide +kernel) (by decide +kernel)
theorem lk_293 : Cond.fieldLink RX8 71 "PromenadeRing$Scene" "log" "LPromenadeRing$Log;" ∈ bW := bW_mem 293 (by decide +kernel) (by decide +kernel)
theorem lk_560 : Cond.methodLink RX8 75 arraycopyName ∈ bW := bW_mem 560 (by decide +kernel) (by decide +kernel)
theorem ln_563 : Cond.methodLinkNest RX8 81 yX5_become "PromenadeRing" ∈ nW := nW_mem 563 (by decide +kernel) (by decide +kernel)
theorem lk_169 : Cond.initialized RX5 ∈ bW := bW_mem 169 (by decide +kernel) (by decide +kernel)
theorem lk_566 : Cond.code yX5_become cX5_become 2 none ∈ bW := bW_mem 566 (by decide +kernel) (by decide +kernel)
theorem lk_565 : Cond.instanceMethod yX5_become ∈ bW := bW_mem 565 (by decide +kernel) (by decide +kernel)
theorem lk_3 : Cond.selects RX5 yX5_become yX5_become ∈ bW := bW_mem 3 (by decide +kernel) (by decide +kernel)
theorem lk_371 : Cond.fieldLink RX1 18 "PromenadeRing$Law" "size" "I" ∈ bW := bW_mem 371 (by decide +kernel) (by decide +kernel)
theorem lk_373 : Cond.fieldLink RX1 22 "PromenadeRing$Law" "lines" "I" ∈ bW := bW_mem 373 (by decide +kernel) (by decide +kernel)
theorem lk_369 : Cond.fieldLink RX1 9 "PromenadeRing$Law" "codes" "[I" ∈ bW := bW_mem 369 (by decide +kernel) (by decide +kernel)
theorem lk_576 : Cond.methodLink RX1 25 arraycopyName ∈ bW := bW_mem 576 (by decide +kernel) (by decide +kernel)
theorem lk_370 : Cond.fieldLink RX1 15 "PromenadeRing$Law" "pile" "[I" ∈ bW := bW_mem 370 (by decide +kernel) (by decide +kernel)
theorem lk_691 : Cond.methodLink RX1 55 yX1_joined ∈ bW := bW_mem 691 (by decide +kernel) (by decide +kernel)
theorem lk_171 : Cond.initialized RX1 ∈ bW := bW_mem 171 (by decide +kernel) (by decide +kernel)
theorem lk_693 : Cond.code yX1_joined cX1_joined 3 (some .int) ∈ bW := bW_mem 693 (by decide +kernel) (by decide +kernel)
theorem lk_692 : Cond.static yX1_joined ∈ bW := bW_mem 692 (by decide +kernel) (by decide +kernel)
theorem ln_674 : Cond.methodLinkNest RX1 52 yX8_figureOf "PromenadeRing" ∈ nW := nW_mem 674 (by decide +kernel) (by decide +kernel)
theorem lk_677 : Cond.code yX8_figureOf cX8_figureOf 3 (some .int) ∈ bW := bW_mem 677 (by decide +kernel) (by decide +kernel)
theorem lk_676 : Cond.instanceMethod yX8_figureOf ∈ bW := bW_mem 676 (by decide +kernel) (by decide +kernel)
theorem lk_19 : Cond.selects RX8 yX8_figureOf yX8_figureOf ∈ bW := bW_mem 19 (by decide +kernel) (by decide +kernel)
theorem ln_273 : Cond.fieldLinkNest RX1 31 "PromenadeRing$Scene" "pace" "[I" "PromenadeRing" ∈ nW := nW_mem 273 (by decide +kernel) (by decide +kernel)
theorem ln_238 : Cond.fieldLinkNest RX1 40 "PromenadeRing$Scene" "yardsRound" "I" "PromenadeRing" ∈ nW := nW_mem 238 (by decide +kernel) (by decide +kernel)
theorem lk_670 : Cond.methodLink RX1 36 yX1_holds ∈ bW := bW_mem 670 (by decide +kernel) (by decide +kernel)
theorem lk_673 : Cond.code yX1_holds cX1_holds 8 (some .boolean) ∈ bW := bW_mem 673 (by decide +kernel) (by decide +kernel)
theorem lk_672 : Cond.instanceMethod yX1_holds ∈ bW := bW_mem 672 (by decide +kernel) (by decide +kernel)
theorem lk_18 : Cond.selects RX1 yX1_holds yX1_holds ∈ bW := bW_mem 18 (by decide +kernel) (by decide +kernel)
theorem lk_694 : Cond.methodLink RX1 43 Lib.Math.min.name ∈ bW := bW_mem 694 (by decide +kernel) (by decide +kernel)
theorem lk_695 : Cond.methodLink RX1 49 Lib.Math.max.name ∈ bW := bW_mem 695 (by decide +kernel) (by decide +kernel)
theorem ln_1097 : Cond.methodLinkNest RX8 108 yX5_write "PromenadeRing" ∈ nW := nW_mem 1097 (by decide +kernel) (by decide +kernel)
theorem lk_1100 : Cond.code yX5_write cX5_write 5 none ∈ bW := bW_mem 1100 (by decide +kernel) (by decide +kernel)
theorem lk_1099 : Cond.instanceMethod yX5_write ∈ bW := bW_mem 1099 (by decide +kernel) (by decide +kernel)
theorem lk_43 : Cond.selects RX5 yX5_write yX5_write ∈ bW := bW_mem 43 (by decide +kernel) (by decide +kernel)
theorem ln_1092 : Cond.methodLinkNest RX8 85 yX1_strideOf "PromenadeRing" ∈ nW := nW_mem 1092 (by decide +kernel) (by decide +kernel)
theorem lk_669 : Cond.code yX1_strideOf cX1_strideOf 7 (some .int) ∈ bW := bW_mem 669 (by decide +kernel) (by decide +kernel)
theorem lk_668 : Cond.instanceMethod yX1_strideOf ∈ bW := bW_mem 668 (by decide +kernel) (by decide +kernel)
theorem lk_17 : Cond.selects RX1 yX1_strideOf yX1_strideOf ∈ bW := bW_mem 17 (by decide +kernel) (by decide +kernel)
theorem lk_1093 : Cond.methodLink RX8 100 yX8_comeBy ∈ bW := bW_mem 1093 (by decide +kernel) (by decide +kernel)
theorem lk_1096 : Cond.code yX8_comeBy cX8_comeBy 4 none ∈ bW := bW_mem 1096 (by decide +kernel) (by decide +kernel)
theorem lk_1095 : Cond.instanceMethod yX8_comeBy ∈ bW := bW_mem 1095 (by decide +kernel) (by decide +kernel)
theorem lk_42 : Cond.selects RX8 yX8_comeBy yX8_comeBy ∈ bW := bW_mem 42 (by decide +kernel) (by decide +kernel)
theorem lk_407 : Cond.fieldLink RX6 15 "PromenadeRing$Orders" "ways" "[I" ∈ bW := bW_mem 407 (by decide +kernel) (by decide +kernel)
theorem lk_408 : Cond.fieldLink RX6 18 "PromenadeRing$Orders" "walkers" "I" ∈ bW := bW_mem 408 (by decide +kernel) (by decide +kernel)
theorem lk_406 : Cond.fieldLink RX6 9 "PromenadeRing$Orders" "behind" "[I" ∈ bW := bW_mem 406 (by decide +kernel) (by decide +kernel)
theorem lk_1334 : Cond.methodLink RX6 31 yJ7_fill_53178 ∈ bW := bW_mem 1334 (by decide +kernel) (by decide +kernel)
theorem lk_192 : Cond.initialized RJ7 ∈ bW := bW_mem 192 (by decide +kernel) (by decide +kernel)
theorem lk_626 : Cond.code yJ7_fill_53178 cJ7_fill_53178 4 none ∈ bW := bW_mem 626 (by decide +kernel) (by decide +kernel)
theorem lk_625 : Cond.static yJ7_fill_53178 ∈ bW := bW_mem 625 (by decide +kernel) (by decide +kernel)
theorem lk_1344 : Cond.methodLink RX6 37 yX6_leastBehind ∈ bW := bW_mem 1344 (by decide +kernel) (by decide +kernel)
theorem lk_172 : Cond.initialized RX6 ∈ bW := bW_mem 172 (by decide +kernel) (by decide +kernel)
theorem lk_1347 : Cond.code yX6_leastBehind cX6_leastBehind 3 (some .int) ∈ bW := bW_mem 1347 (by decide +kernel) (by decide +kernel)
theorem lk_1346 : Cond.instanceMethod yX6_leastBehind ∈ bW := bW_mem 1346 (by decide +kernel) (by decide +kernel)
theorem lk_60 : Cond.selects RX6 yX6_leastBehind yX6_leastBehind ∈ bW := bW_mem 60 (by decide +kernel) (by decide +kernel)
theorem lk_1359 : Cond.methodLink RX6 41 yX6_countAll ∈ bW := bW_mem 1359 (by decide +kernel) (by decide +kernel)
theorem lk_1339 : Cond.code yX6_countAll cX6_countAll 4 (some .int) ∈ bW := bW_mem 1339 (by decide +kernel) (by decide +kernel)
theorem lk_1338 : Cond.instanceMethod yX6_countAll ∈ bW := bW_mem 1338 (by decide +kernel) (by decide +kernel)
theorem lk_58 : Cond.selects RX6 yX6_countAll yX6_countAll ∈ bW := bW_mem 58 (by decide +kernel) (by decide +kernel)
theorem lk_1333 : Cond.methodLink RX6 28 Lib.Math.max.name ∈ bW := bW_mem 1333 (by decide +kernel) (by decide +kernel)
theorem lk_1332 : Cond.methodLink RX6 22 Lib.Math.min.name ∈ bW := bW_mem 1332 (by decide +kernel) (by decide +kernel)
theorem lk_422 : Cond.fieldLink RX3 9 "PromenadeRing$Lengths" "fits" "[I" ∈ bW := bW_mem 422 (by decide +kernel) (by decide +kernel)
theorem lk_423 : Cond.fieldLink RX3 15 "PromenadeRing$Lengths" "again" "[I" ∈ bW := bW_mem 423 (by decide +kernel) (by decide +kernel)
theorem lk_424 : Cond.fieldLink RX3 18 "PromenadeRing$Lengths" "fitting" "I" ∈ bW := bW_mem 424 (by decide +kernel) (by decide +kernel)
theorem lk_1400 : Cond.methodLink RX3 42 Lib.Math.max.name ∈ bW := bW_mem 1400 (by decide +kernel) (by decide +kernel)
theorem lk_1396 : Cond.methodLink RX3 38 yX3_greaterPart ∈ bW := bW_mem 1396 (by decide +kernel) (by decide +kernel)
theorem lk_173 : Cond.initialized RX3 ∈ bW := bW_mem 173 (by decide +kernel) (by decide +kernel)
theorem lk_1399 : Cond.code yX3_greaterPart cX3_greaterPart 2 (some .int) ∈ bW := bW_mem 1399 (by decide +kernel) (by decide +kernel)
theorem lk_1398 : Cond.instanceMethod yX3_greaterPart ∈ bW := bW_mem 1398 (by decide +kernel) (by decide +kernel)
theorem lk_66 : Cond.selects RX3 yX3_greaterPart yX3_greaterPart ∈ bW := bW_mem 66 (by decide +kernel) (by decide +kernel)
theorem lk_1395 : Cond.methodLink RX3 32 yJ7_fill_53178 ∈ bW := bW_mem 1395 (by decide +kernel) (by decide +kernel)
theorem lk_1376 : Cond.methodLink RX3 28 yX3_fitsRows ∈ bW := bW_mem 1376 (by decide +kernel) (by decide +kernel)
theorem lk_1378 : Cond.code yX3_fitsRows cX3_fitsRows 5 (some .boolean) ∈ bW := bW_mem 1378 (by decide +kernel) (by decide +kernel)
theorem lk_1377 : Cond.static yX3_fitsRows ∈ bW := bW_mem 1377 (by decide +kernel) (by decide +kernel)
theorem lk_1375 : Cond.methodLink RX3 22 Lib.Math.min.name ∈ bW := bW_mem 1375 (by decide +kernel) (by decide +kernel)
theorem ln_269 : Cond.fieldLinkNest RX9 56 "PromenadeRing$Scene" "at" "[I" "PromenadeRing" ∈ nW := nW_mem 269 (by decide +kernel) (by decide +kernel)
theorem ln_286 : Cond.fieldLinkNest RX9 59 "PromenadeRing$Scene" "stand" "[I" "PromenadeRing" ∈ nW := nW_mem 286 (by decide +kernel) (by decide +kernel)
theorem lk_439 : Cond.fieldLink RX9 11 "PromenadeRing$Seating" "best" "[I" ∈ bW := bW_mem 439 (by decide +kernel) (by decide +kernel)
theorem ln_635 : Cond.methodLinkNest RX9 62 yX8_yards "PromenadeRing" ∈ nW := nW_mem 635 (by decide +kernel) (by decide +kernel)
theorem ln_262 : Cond.fieldLinkNest RX9 22 "PromenadeRing$Scene" "shelters" "I" "PromenadeRing" ∈ nW := nW_mem 262 (by decide +kernel) (by decide +kernel)
theorem lk_631 : Cond.methodLink RX9 46 yX9_worthIn ∈ bW := bW_mem 631 (by decide +kernel) (by decide +kernel)
theorem lk_174 : Cond.initialized RX9 ∈ bW := bW_mem 174 (by decide +kernel) (by decide +kernel)
theorem lk_634 : Cond.code yX9_worthIn cX9_worthIn 6 (some .int) ∈ bW := bW_mem 634 (by decide +kernel) (by decide +kernel)
theorem lk_633 : Cond.instanceMethod yX9_worthIn ∈ bW := bW_mem 633 (by decide +kernel) (by decide +kernel)
theorem lk_12 : Cond.selects RX9 yX9_worthIn yX9_worthIn ∈ bW := bW_mem 12 (by decide +kernel) (by decide +kernel)
theorem lk_636 : Cond.methodLink RX9 50 Lib.Math.max.name ∈ bW := bW_mem 636 (by decide +kernel) (by decide +kernel)
theorem ln_258 : Cond.fieldLinkNest RX9 36 "PromenadeRing$Scene" "walkers" "I" "PromenadeRing" ∈ nW := nW_mem 258 (by decide +kernel) (by decide +kernel)
theorem lk_442 : Cond.fieldLink RX9 18 "PromenadeRing$Seating" "seatedOnes" "I" ∈ bW := bW_mem 442 (by decide +kernel) (by decide +kernel)
theorem lk_440 : Cond.fieldLink RX9 15 "PromenadeRing$Seating" "shelterOf" "[I" ∈ bW := bW_mem 440 (by decide +kernel) (by decide +kernel)
theorem ln_290 : Cond.fieldLinkNest RX9 27 "PromenadeRing$Scene" "seats" "[I" "PromenadeRing" ∈ nW := nW_mem 290 (by decide +kernel) (by decide +kernel)
theorem lk_624 : Cond.methodLink RX9 30 yJ7_fill_53178 ∈ bW := bW_mem 624 (by decide +kernel) (by decide +kernel)
theorem lk_627 : Cond.methodLink RX9 39 yX9_bestOf ∈ bW := bW_mem 627 (by decide +kernel) (by decide +kernel)
theorem lk_630 : Cond.code yX9_bestOf cX9_bestOf 6 (some .int) ∈ bW := bW_mem 630 (by decide +kernel) (by decide +kernel)
theorem lk_629 : Cond.instanceMethod yX9_bestOf ∈ bW := bW_mem 629 (by decide +kernel) (by decide +kernel)
theorem lk_11 : Cond.selects RX9 yX9_bestOf yX9_bestOf ∈ bW := bW_mem 11 (by decide +kernel) (by decide +kernel)
theorem lk_637 : Cond.methodLink RX9 43 yX9_firstBest ∈ bW := bW_mem 637 (by decide +kernel) (by decide +kernel)
theorem lk_640 : Cond.code yX9_firstBest cX9_firstBest 5 (some .int) ∈ bW := bW_mem 640 (by decide +kernel) (by decide +kernel)
theorem lk_639 : Cond.instanceMethod yX9_firstBest ∈ bW := bW_mem 639 (by decide +kernel) (by decide +kernel)
theorem lk_13 : Cond.selects RX9 yX9_firstBest yX9_firstBest ∈ bW := bW_mem 13 (by decide +kernel) (by decide +kernel)
theorem lk_645 : Cond.methodLink RX9 65 yX9_wouldGain ∈ bW := bW_mem 645 (by decide +kernel) (by decide +kernel)
theorem lk_648 : Cond.code yX9_wouldGain cX9_wouldGain 7 (some .boolean) ∈ bW := bW_mem 648 (by decide +kernel) (by decide +kernel)
theorem lk_647 : Cond.instanceMethod yX9_wouldGain ∈ bW := bW_mem 647 (by decide +kernel) (by decide +kernel)
theorem lk_15 : Cond.selects RX9 yX9_wouldGain yX9_wouldGain ∈ bW := bW_mem 15 (by decide +kernel) (by decide +kernel)
theorem ln_277 : Cond.fieldLinkNest RX0 55 "PromenadeRing$Scene" "shuns" "[I" "PromenadeRing" ∈ nW := nW_mem 277 (by decide +kernel) (by decide +kernel)
theorem ln_270 : Cond.fieldLinkNest RX0 58 "PromenadeRing$Scene" "at" "[I" "PromenadeRing" ∈ nW := nW_mem 270 (by decide +kernel) (by decide +kernel)
theorem lk_457 : Cond.fieldLink RX0 9 "PromenadeRing$Coupling" "best" "[I" ∈ bW := bW_mem 457 (by decide +kernel) (by decide +kernel)
theorem ln_1466 : Cond.methodLinkNest RX0 61 yX8_yards "PromenadeRing" ∈ nW := nW_mem 1466 (by decide +kernel) (by decide +kernel)
theorem lk_1467 : Cond.methodLink RX0 64 Lib.Math.min.name ∈ bW := bW_mem 1467 (by decide +kernel) (by decide +kernel)
theorem ln_257 : Cond.fieldLinkNest RX0 22 "PromenadeRing$Scene" "walkers" "I" "PromenadeRing" ∈ nW := nW_mem 257 (by decide +kernel) (by decide +kernel)
theorem lk_1462 : Cond.methodLink RX0 45 yX0_worthWith ∈ bW := bW_mem 1462 (by decide +kernel) (by decide +kernel)
theorem lk_175 : Cond.initialized RX0 ∈ bW := bW_mem 175 (by decide +kernel) (by decide +kernel)
theorem lk_1465 : Cond.code yX0_worthWith cX0_worthWith 8 (some .int) ∈ bW := bW_mem 1465 (by decide +kernel) (by decide +kernel)
theorem lk_1464 : Cond.instanceMethod yX0_worthWith ∈ bW := bW_mem 1464 (by decide +kernel) (by decide +kernel)
theorem lk_71 : Cond.selects RX0 yX0_worthWith yX0_worthWith ∈ bW := bW_mem 71 (by decide +kernel) (by decide +kernel)
theorem lk_1468 : Cond.methodLink RX0 49 Lib.Math.max.name ∈ bW := bW_mem 1468 (by decide +kernel) (by decide +kernel)
theorem lk_1459 : Cond.methodLink RX0 41 yX0_firstOf ∈ bW := bW_mem 1459 (by decide +kernel) (by decide +kernel)
theorem lk_1461 : Cond.code yX0_firstOf cX0_firstOf 2 (some .int) ∈ bW := bW_mem 1461 (by decide +kernel) (by decide +kernel)
theorem lk_1460 : Cond.static yX0_firstOf ∈ bW := bW_mem 1460 (by decide +kernel) (by decide +kernel)
theorem lk_460 : Cond.fieldLink RX0 18 "PromenadeRing$Coupling" "pairs" "I" ∈ bW := bW_mem 460 (by decide +kernel) (by decide +kernel)
theorem lk_458 : Cond.fieldLink RX0 15 "PromenadeRing$Coupling" "partnerOf" "[I" ∈ bW := bW_mem 458 (by decide +kernel) (by decide +kernel)
theorem lk_1469 : Cond.methodLink RX0 31 yJ7_fill_53178 ∈ bW := bW_mem 1469 (by decide +kernel) (by decide +kernel)
theorem lk_1455 : Cond.methodLink RX0 27 yX0_bestOf ∈ bW := bW_mem 1455 (by decide +kernel) (by decide +kernel)
theorem lk_1458 : Cond.code yX0_bestOf cX0_bestOf 6 (some .int) ∈ bW := bW_mem 1458 (by decide +kernel) (by decide +kernel)
theorem lk_1457 : Cond.instanceMethod yX0_bestOf ∈ bW := bW_mem 1457 (by decide +kernel) (by decide +kernel)
theorem lk_70 : Cond.selects RX0 yX0_bestOf yX0_bestOf ∈ bW := bW_mem 70 (by decide +kernel) (by decide +kernel)
theorem lk_1470 : Cond.methodLink RX0 37 yX0_firstBest ∈ bW := bW_mem 1470 (by decide +kernel) (by decide +kernel)
theorem lk_1473 : Cond.code yX0_firstBest cX0_firstBest 5 (some .int) ∈ bW := bW_mem 1473 (by decide +kernel) (by decide +kernel)
theorem lk_1472 : Cond.instanceMethod yX0_firstBest ∈ bW := bW_mem 1472 (by decide +kernel) (by decide +kernel)
theorem lk_72 : Cond.selects RX0 yX0_firstBest yX0_firstBest ∈ bW := bW_mem 72 (by decide +kernel) (by decide +kernel)
theorem lk_340 : Cond.fieldLink RX4 25 "PromenadeRing$LineReader" "behind" "I" ∈ bW := bW_mem 340 (by decide +kernel) (by decide +kernel)
theorem lk_339 : Cond.fieldLink RX4 22 "PromenadeRing$LineReader" "begin" "I" ∈ bW := bW_mem 339 (by decide +kernel) (by decide +kernel)
theorem lk_337 : Cond.fieldLink RX4 15 "PromenadeRing$LineReader" "length" "I" ∈ bW := bW_mem 337 (by decide +kernel) (by decide +kernel)
theorem lk_336 : Cond.fieldLink RX4 9 "PromenadeRing$LineReader" "text" "[I" ∈ bW := bW_mem 336 (by decide +kernel) (by decide +kernel)
theorem lk_341 : Cond.fieldLink RX4 28 "PromenadeRing$LineReader" "value" "I" ∈ bW := bW_mem 341 (by decide +kernel) (by decide +kernel)
theorem lk_338 : Cond.fieldLink RX4 19 "PromenadeRing$LineReader" "kind" "I" ∈ bW := bW_mem 338 (by decide +kernel) (by decide +kernel)
theorem ln_2306 : Cond.fieldLinkNest RX4 48 "PromenadeRing$Word" "text" "Ljava/lang/String;" "PromenadeRing" ∈ nW := nW_mem 2306 (by decide +kernel) (by decide +kernel)
theorem lk_751 : Cond.methodLink RX4 53 yJ0_length_8abf5 ∈ bW := bW_mem 751 (by decide +kernel) (by decide +kernel)
theorem lk_761 : Cond.methodLink RX4 58 yJ0_charAt_5068e ∈ bW := bW_mem 761 (by decide +kernel) (by decide +kernel)
theorem lk_745 : Cond.methodLink RX4 62 ⟨RX4, "isAt", "(LPromenadeRing$Word;)Z"⟩ ∈ bW := bW_mem 745 (by decide +kernel) (by decide +kernel)
theorem lk_747 : Cond.sameMethod RX4 RX4 "isAt" "(LPromenadeRing$Word;)Z" ∈ bW := bW_mem 747 (by decide +kernel) (by decide +kernel)
theorem lk_749 : Cond.selects RX7 ⟨RX4, "isAt", "(LPromenadeRing$Word;)Z"⟩ yX4_isAt ∈ bW := bW_mem 749 (by decide +kernel) (by decide +kernel)
theorem lk_746 : Cond.instanceMethod yX4_isAt ∈ bW := bW_mem 746 (by decide +kernel) (by decide +kernel)
theorem lk_166 : Cond.initialized RX4 ∈ bW := bW_mem 166 (by decide +kernel) (by decide +kernel)
theorem lk_750 : Cond.code yX4_isAt cX4_isAt 3 (some .boolean) ∈ bW := bW_mem 750 (by decide +kernel) (by decide +kernel)
theorem lk_725 : Cond.methodLink RX4 37 ⟨RX4, "advance", "()V"⟩ ∈ bW := bW_mem 725 (by decide +kernel) (by decide +kernel)
theorem lk_727 : Cond.sameMethod RX4 RX4 "advance" "()V" ∈ bW := bW_mem 727 (by decide +kernel) (by decide +kernel)
theorem lk_729 : Cond.selects RX7 ⟨RX4, "advance", "()V"⟩ yX4_advance ∈ bW := bW_mem 729 (by decide +kernel) (by decide +kernel)
theorem lk_726 : Cond.instanceMethod yX4_advance ∈ bW := bW_mem 726 (by decide +kernel) (by decide +kernel)
theorem lk_730 : Cond.code yX4_advance cX4_advance 1 none ∈ bW := bW_mem 730 (by decide +kernel) (by decide +kernel)
theorem lk_748 : Cond.selects RX2 ⟨RX4, "isAt", "(LPromenadeRing$Word;)Z"⟩ yX4_isAt ∈ bW := bW_mem 748 (by decide +kernel) (by decide +kernel)
theorem lk_728 : Cond.selects RX2 ⟨RX4, "advance", "()V"⟩ yX4_advance ∈ bW := bW_mem 728 (by decide +kernel) (by decide +kernel)
theorem lk_851 : Cond.methodLink RX4 66 ⟨RX4, "isAtSign", "(C)Z"⟩ ∈ bW := bW_mem 851 (by decide +kernel) (by decide +kernel)
theorem lk_2280 : Cond.sameMethod RX4 RX4 "isAtSign" "(C)Z" ∈ bW := bW_mem 2280 (by decide +kernel) (by decide +kernel)
theorem lk_2282 : Cond.selects RX7 ⟨RX4, "isAtSign", "(C)Z"⟩ yX4_isAtSign ∈ bW := bW_mem 2282 (by decide +kernel) (by decide +kernel)
theorem lk_839 : Cond.instanceMethod yX4_isAtSign ∈ bW := bW_mem 839 (by decide +kernel) (by decide +kernel)
theorem lk_840 : Cond.code yX4_isAtSign cX4_isAtSign 2 (some .boolean) ∈ bW := bW_mem 840 (by decide +kernel) (by decide +kernel)
theorem lk_2281 : Cond.selects RX2 ⟨RX4, "isAtSign", "(C)Z"⟩ yX4_isAtSign ∈ bW := bW_mem 2281 (by decide +kernel) (by decide +kernel)
theorem ln_2309 : Cond.fieldLinkNest RX4 73 "PromenadeRing$Word" "code" "I" "PromenadeRing" ∈ nW := nW_mem 2309 (by decide +kernel) (by decide +kernel)
theorem ln_858 : Cond.fieldLinkNest RX4 69 "PromenadeRing" "WORDS" "[LPromenadeRing$Word;" "PromenadeRing" ∈ nW := nW_mem 858 (by decide +kernel) (by decide +kernel)
theorem lk_384 : Cond.fieldLink RX2 12 "PromenadeRing$LawReader" "law" "LPromenadeRing$Law;" ∈ bW := bW_mem 384 (by decide +kernel) (by decide +kernel)
theorem lk_845 : Cond.methodLink RX2 89 ⟨RX2, "takeSign", "(C)Z"⟩ ∈ bW := bW_mem 845 (by decide +kernel) (by decide +kernel)
theorem lk_846 : Cond.sameMethod RX2 RX4 "takeSign" "(C)Z" ∈ bW := bW_mem 846 (by decide +kernel) (by decide +kernel)
theorem lk_848 : Cond.selects RX2 ⟨RX2, "takeSign", "(C)Z"⟩ yX4_takeSign ∈ bW := bW_mem 848 (by decide +kernel) (by decide +kernel)
theorem lk_849 : Cond.instanceMethod yX4_takeSign ∈ bW := bW_mem 849 (by decide +kernel) (by decide +kernel)
theorem lk_850 : Cond.code yX4_takeSign cX4_takeSign 3 (some .boolean) ∈ bW := bW_mem 850 (by decide +kernel) (by decide +kernel)
theorem lk_852 : Cond.methodLink RX2 81 ⟨RX2, "codeHere", "()I"⟩ ∈ bW := bW_mem 852 (by decide +kernel) (by decide +kernel)
theorem lk_853 : Cond.sameMethod RX2 RX4 "codeHere" "()I" ∈ bW := bW_mem 853 (by decide +kernel) (by decide +kernel)
theorem lk_855 : Cond.selects RX2 ⟨RX2, "codeHere", "()I"⟩ yX4_codeHere ∈ bW := bW_mem 855 (by decide +kernel) (by decide +kernel)
theorem lk_856 : Cond.instanceMethod yX4_codeHere ∈ bW := bW_mem 856 (by decide +kernel) (by decide +kernel)
theorem lk_857 : Cond.code yX4_codeHere cX4_codeHere 2 (some .int) ∈ bW := bW_mem 857 (by decide +kernel) (by decide +kernel)
theorem lk_807 : Cond.methodLink RX2 37 ⟨RX2, "advance", "()V"⟩ ∈ bW := bW_mem 807 (by decide +kernel) (by decide +kernel)
theorem lk_808 : Cond.sameMethod RX2 RX4 "advance" "()V" ∈ bW := bW_mem 808 (by decide +kernel) (by decide +kernel)
theorem lk_810 : Cond.selects RX2 ⟨RX2, "advance", "()V"⟩ yX4_advance ∈ bW := bW_mem 810 (by decide +kernel) (by decide +kernel)
theorem lk_811 : Cond.methodLink RX2 40 ⟨RX2, "takeNumber", "(II)I"⟩ ∈ bW := bW_mem 811 (by decide +kernel) (by decide +kernel)
theorem lk_812 : Cond.sameMethod RX2 RX4 "takeNumber" "(II)I" ∈ bW := bW_mem 812 (by decide +kernel) (by decide +kernel)
theorem lk_814 : Cond.selects RX2 ⟨RX2, "takeNumber", "(II)I"⟩ yX4_takeNumber ∈ bW := bW_mem 814 (by decide +kernel) (by decide +kernel)
theorem lk_815 : Cond.instanceMethod yX4_takeNumber ∈ bW := bW_mem 815 (by decide +kernel) (by decide +kernel)
theorem lk_816 : Cond.code yX4_takeNumber cX4_takeNumber 4 (some .int) ∈ bW := bW_mem 816 (by decide +kernel) (by decide +kernel)
theorem ln_817 : Cond.methodLinkNest RX2 48 yX1_emit "PromenadeRing" ∈ nW := nW_mem 817 (by decide +kernel) (by decide +kernel)
theorem lk_820 : Cond.code yX1_emit cX1_emit 2 none ∈ bW := bW_mem 820 (by decide +kernel) (by decide +kernel)
theorem lk_819 : Cond.instanceMethod yX1_emit ∈ bW := bW_mem 819 (by decide +kernel) (by decide +kernel)
theorem lk_22 : Cond.selects RX1 yX1_emit yX1_emit ∈ bW := bW_mem 22 (by decide +kernel) (by decide +kernel)
theorem lk_827 : Cond.fieldLink RX2 62 "PromenadeRing$Word" "AND" "LPromenadeRing$Word;" ∈ bW := bW_mem 827 (by decide +kernel) (by decide +kernel)
theorem lk_739 : Cond.methodLink RX2 24 ⟨RX2, "take", "(LPromenadeRing$Word;)Z"⟩ ∈ bW := bW_mem 739 (by decide +kernel) (by decide +kernel)
theorem lk_740 : Cond.sameMethod RX2 RX4 "take" "(LPromenadeRing$Word;)Z" ∈ bW := bW_mem 740 (by decide +kernel) (by decide +kernel)
theorem lk_742 : Cond.selects RX2 ⟨RX2, "take", "(LPromenadeRing$Word;)Z"⟩ yX4_take ∈ bW := bW_mem 742 (by decide +kernel) (by decide +kernel)
theorem lk_743 : Cond.instanceMethod yX4_take ∈ bW := bW_mem 743 (by decide +kernel) (by decide +kernel)
theorem lk_744 : Cond.code yX4_take cX4_take 3 (some .boolean) ∈ bW := bW_mem 744 (by decide +kernel) (by decide +kernel)
theorem lk_829 : Cond.methodLink RX2 65 yX2_readAtom ∈ bW := bW_mem 829 (by decide +kernel) (by decide +kernel)
theorem lk_170 : Cond.initialized RX2 ∈ bW := bW_mem 170 (by decide +kernel) (by decide +kernel)
theorem lk_832 : Cond.code yX2_readAtom cX2_readAtom 4 (some .boolean) ∈ bW := bW_mem 832 (by decide +kernel) (by decide +kernel)
theorem lk_831 : Cond.instanceMethod yX2_readAtom ∈ bW := bW_mem 831 (by decide +kernel) (by decide +kernel)
theorem lk_24 : Cond.selects RX2 yX2_readAtom yX2_readAtom ∈ bW := bW_mem 24 (by decide +kernel) (by decide +kernel)
theorem lk_864 : Cond.fieldLink RX2 68 "PromenadeRing$Word" "OR" "LPromenadeRing$Word;" ∈ bW := bW_mem 864 (by decide +kernel) (by decide +kernel)
theorem lk_841 : Cond.methodLink RX2 78 yX2_readDeeper ∈ bW := bW_mem 841 (by decide +kernel) (by decide +kernel)
theorem lk_844 : Cond.code yX2_readDeeper cX2_readDeeper 2 (some .boolean) ∈ bW := bW_mem 844 (by decide +kernel) (by decide +kernel)
theorem lk_843 : Cond.instanceMethod yX2_readDeeper ∈ bW := bW_mem 843 (by decide +kernel) (by decide +kernel)
theorem lk_25 : Cond.selects RX2 yX2_readDeeper yX2_readDeeper ∈ bW := bW_mem 25 (by decide +kernel) (by decide +kernel)
theorem lk_860 : Cond.methodLink RX2 85 yX2_readSum ∈ bW := bW_mem 860 (by decide +kernel) (by decide +kernel)
theorem lk_863 : Cond.code yX2_readSum cX2_readSum 3 (some .boolean) ∈ bW := bW_mem 863 (by decide +kernel) (by decide +kernel)
theorem lk_862 : Cond.instanceMethod yX2_readSum ∈ bW := bW_mem 862 (by decide +kernel) (by decide +kernel)
theorem lk_26 : Cond.selects RX2 yX2_readSum yX2_readSum ∈ bW := bW_mem 26 (by decide +kernel) (by decide +kernel)
theorem lk_833 : Cond.fieldLink RX2 71 "PromenadeRing$Word" "NOT" "LPromenadeRing$Word;" ∈ bW := bW_mem 833 (by decide +kernel) (by decide +kernel)
theorem lk_801 : Cond.methodLink RX2 31 ⟨RX2, "isAt", "(LPromenadeRing$Word;)Z"⟩ ∈ bW := bW_mem 801 (by decide +kernel) (by decide +kernel)
theorem lk_802 : Cond.sameMethod RX2 RX4 "isAt" "(LPromenadeRing$Word;)Z" ∈ bW := bW_mem 802 (by decide +kernel) (by decide +kernel)
theorem lk_804 : Cond.selects RX2 ⟨RX2, "isAt", "(LPromenadeRing$Word;)Z"⟩ yX4_isAt ∈ bW := bW_mem 804 (by decide +kernel) (by decide +kernel)
theorem lk_835 : Cond.methodLink RX2 74 ⟨RX2, "isAtSign", "(C)Z"⟩ ∈ bW := bW_mem 835 (by decide +kernel) (by decide +kernel)
theorem lk_836 : Cond.sameMethod RX2 RX4 "isAtSign" "(C)Z" ∈ bW := bW_mem 836 (by decide +kernel) (by decide +kernel)
theorem lk_838 : Cond.selects RX2 ⟨RX2, "isAtSign", "(C)Z"⟩ yX4_isAtSign ∈ bW := bW_mem 838 (by decide +kernel) (by decide +kernel)
theorem lk_823 : Cond.methodLink RX2 55 yX2_readAny ∈ bW := bW_mem 823 (by decide +kernel) (by decide +kernel)
theorem lk_826 : Cond.code yX2_readAny cX2_readAny 4 (some .boolean) ∈ bW := bW_mem 826 (by decide +kernel) (by decide +kernel)
theorem lk_825 : Cond.instanceMethod yX2_readAny ∈ bW := bW_mem 825 (by decide +kernel) (by decide +kernel)
theorem lk_23 : Cond.selects RX2 yX2_readAny yX2_readAny ∈ bW := bW_mem 23 (by decide +kernel) (by decide +kernel)
theorem ln_372 : Cond.fieldLinkNest RX2 44 "PromenadeRing$Law" "size" "I" "PromenadeRing" ∈ nW := nW_mem 372 (by decide +kernel) (by decide +kernel)
theorem lk_821 : Cond.fieldLink RX2 52 "PromenadeRing$Word" "IF" "LPromenadeRing$Word;" ∈ bW := bW_mem 821 (by decide +kernel) (by decide +kernel)
theorem ln_866 : Cond.methodLinkNest RX2 59 yX1_closeLine "PromenadeRing" ∈ nW := nW_mem 866 (by decide +kernel) (by decide +kernel)
theorem lk_869 : Cond.code yX1_closeLine cX1_closeLine 2 none ∈ bW := bW_mem 869 (by decide +kernel) (by decide +kernel)
theorem lk_868 : Cond.instanceMethod yX1_closeLine ∈ bW := bW_mem 868 (by decide +kernel) (by decide +kernel)
theorem lk_27 : Cond.selects RX1 yX1_closeLine yX1_closeLine ∈ bW := bW_mem 27 (by decide +kernel) (by decide +kernel)
theorem lk_737 : Cond.fieldLink RX2 18 "PromenadeRing$Word" "STOP" "LPromenadeRing$Word;" ∈ bW := bW_mem 737 (by decide +kernel) (by decide +kernel)
theorem lk_799 : Cond.fieldLink RX2 28 "PromenadeRing$Word" "SLOW" "LPromenadeRing$Word;" ∈ bW := bW_mem 799 (by decide +kernel) (by decide +kernel)
theorem lk_805 : Cond.fieldLink RX2 34 "PromenadeRing$Word" "HASTE" "LPromenadeRing$Word;" ∈ bW := bW_mem 805 (by decide +kernel) (by decide +kernel)
theorem lk_334 : Cond.fieldLink RX7 12 "PromenadeRing$PromenadeReader" "scene" "LPromenadeRing$Scene;" ∈ bW := bW_mem 334 (by decide +kernel) (by decide +kernel)
theorem ln_259 : Cond.fieldLinkNest RX7 86 "PromenadeRing$Scene" "walkers" "I" "PromenadeRing" ∈ nW := nW_mem 259 (by decide +kernel) (by decide +kernel)
theorem ln_263 : Cond.fieldLinkNest RX7 89 "PromenadeRing$Scene" "shelters" "I" "PromenadeRing" ∈ nW := nW_mem 263 (by decide +kernel) (by decide +kernel)
theorem ln_237 : Cond.fieldLinkNest RX7 56 "PromenadeRing$Scene" "yardsRound" "I" "PromenadeRing" ∈ nW := nW_mem 237 (by decide +kernel) (by decide +kernel)
theorem ln_241 : Cond.fieldLinkNest RX7 64 "PromenadeRing$Scene" "band" "I" "PromenadeRing" ∈ nW := nW_mem 241 (by decide +kernel) (by decide +kernel)
theorem lk_882 : Cond.methodLink RX7 92 ⟨RX7, "advance", "()V"⟩ ∈ bW := bW_mem 882 (by decide +kernel) (by decide +kernel)
theorem lk_883 : Cond.sameMethod RX7 RX4 "advance" "()V" ∈ bW := bW_mem 883 (by decide +kernel) (by decide +kernel)
theorem lk_884 : Cond.selects RX7 ⟨RX7, "advance", "()V"⟩ yX4_advance ∈ bW := bW_mem 884 (by decide +kernel) (by decide +kernel)
theorem lk_885 : Cond.methodLink RX7 60 ⟨RX7, "takeNumber", "(II)I"⟩ ∈ bW := bW_mem 885 (by decide +kernel) (by decide +kernel)
theorem lk_886 : Cond.sameMethod RX7 RX4 "takeNumber" "(II)I" ∈ bW := bW_mem 886 (by decide +kernel) (by decide +kernel)
theorem lk_887 : Cond.selects RX7 ⟨RX7, "takeNumber", "(II)I"⟩ yX4_takeNumber ∈ bW := bW_mem 887 (by decide +kernel) (by decide +kernel)
theorem lk_888 : Cond.methodLink RX7 95 Lib.Math.min.name ∈ bW := bW_mem 888 (by decide +kernel) (by decide +kernel)
theorem lk_901 : Cond.methodLink RX7 41 ⟨RX7, "take", "(LPromenadeRing$Word;)Z"⟩ ∈ bW := bW_mem 901 (by decide +kernel) (by decide +kernel)
theorem lk_902 : Cond.sameMethod RX7 RX4 "take" "(LPromenadeRing$Word;)Z" ∈ bW := bW_mem 902 (by decide +kernel) (by decide +kernel)
theorem lk_903 : Cond.selects RX7 ⟨RX7, "take", "(LPromenadeRing$Word;)Z"⟩ yX4_take ∈ bW := bW_mem 903 (by decide +kernel) (by decide +kernel)
theorem ln_287 : Cond.fieldLinkNest RX7 131 "PromenadeRing$Scene" "stand" "[I" "PromenadeRing" ∈ nW := nW_mem 287 (by decide +kernel) (by decide +kernel)
theorem ln_291 : Cond.fieldLinkNest RX7 134 "PromenadeRing$Scene" "seats" "[I" "PromenadeRing" ∈ nW := nW_mem 291 (by decide +kernel) (by decide +kernel)
theorem lk_895 : Cond.fieldLink RX7 100 "PromenadeRing$Word" "AT" "LPromenadeRing$Word;" ∈ bW := bW_mem 895 (by decide +kernel) (by decide +kernel)
theorem lk_897 : Cond.methodLink RX7 103 yX7_readNumberAfter ∈ bW := bW_mem 897 (by decide +kernel) (by decide +kernel)
theorem lk_167 : Cond.initialized RX7 ∈ bW := bW_mem 167 (by decide +kernel) (by decide +kernel)
theorem lk_900 : Cond.code yX7_readNumberAfter cX7_readNumberAfter 4 (some .int) ∈ bW := bW_mem 900 (by decide +kernel) (by decide +kernel)
theorem lk_899 : Cond.instanceMethod yX7_readNumberAfter ∈ bW := bW_mem 899 (by decide +kernel) (by decide +kernel)
theorem lk_30 : Cond.selects RX7 yX7_readNumberAfter yX7_readNumberAfter ∈ bW := bW_mem 30 (by decide +kernel) (by decide +kernel)
theorem lk_930 : Cond.fieldLink RX7 128 "PromenadeRing$Word" "SEATS" "LPromenadeRing$Word;" ∈ bW := bW_mem 930 (by decide +kernel) (by decide +kernel)
theorem ln_276 : Cond.fieldLinkNest RX7 124 "PromenadeRing$Scene" "shuns" "[I" "PromenadeRing" ∈ nW := nW_mem 276 (by decide +kernel) (by decide +kernel)
theorem lk_918 : Cond.methodLink RX7 120 ⟨RX7, "isAtNumber", "(I)Z"⟩ ∈ bW := bW_mem 918 (by decide +kernel) (by decide +kernel)
theorem lk_919 : Cond.sameMethod RX7 RX4 "isAtNumber" "(I)Z" ∈ bW := bW_mem 919 (by decide +kernel) (by decide +kernel)
theorem lk_921 : Cond.selects RX7 ⟨RX7, "isAtNumber", "(I)Z"⟩ yX4_isAtNumber ∈ bW := bW_mem 921 (by decide +kernel) (by decide +kernel)
theorem lk_922 : Cond.instanceMethod yX4_isAtNumber ∈ bW := bW_mem 922 (by decide +kernel) (by decide +kernel)
theorem lk_923 : Cond.code yX4_isAtNumber cX4_isAtNumber 2 (some .boolean) ∈ bW := bW_mem 923 (by decide +kernel) (by decide +kernel)
theorem ln_266 : Cond.fieldLinkNest RX7 117 "PromenadeRing$Scene" "inBlack" "I" "PromenadeRing" ∈ nW := nW_mem 266 (by decide +kernel) (by decide +kernel)
theorem ln_906 : Cond.methodLinkNest RX7 110 yX8_addWalker "PromenadeRing" ∈ nW := nW_mem 906 (by decide +kernel) (by decide +kernel)
theorem lk_909 : Cond.code yX8_addWalker cX8_addWalker 3 none ∈ bW := bW_mem 909 (by decide +kernel) (by decide +kernel)
theorem lk_908 : Cond.instanceMethod yX8_addWalker ∈ bW := bW_mem 908 (by decide +kernel) (by decide +kernel)
theorem lk_31 : Cond.selects RX8 yX8_addWalker yX8_addWalker ∈ bW := bW_mem 31 (by decide +kernel) (by decide +kernel)
theorem lk_910 : Cond.fieldLink RX7 114 "PromenadeRing$Word" "BLACK" "LPromenadeRing$Word;" ∈ bW := bW_mem 910 (by decide +kernel) (by decide +kernel)
theorem lk_904 : Cond.fieldLink RX7 107 "PromenadeRing$Word" "PACE" "LPromenadeRing$Word;" ∈ bW := bW_mem 904 (by decide +kernel) (by decide +kernel)
theorem ln_244 : Cond.fieldLinkNest RX7 83 "PromenadeRing$Scene" "hour" "I" "PromenadeRing" ∈ nW := nW_mem 244 (by decide +kernel) (by decide +kernel)
theorem ln_250 : Cond.fieldLinkNest RX7 76 "PromenadeRing$Scene" "misty" "Z" "PromenadeRing" ∈ nW := nW_mem 250 (by decide +kernel) (by decide +kernel)
theorem ln_247 : Cond.fieldLinkNest RX7 70 "PromenadeRing$Scene" "mist" "I" "PromenadeRing" ∈ nW := nW_mem 247 (by decide +kernel) (by decide +kernel)
theorem lk_873 : Cond.fieldLink RX7 18 "PromenadeRing$Word" "LONG" "LPromenadeRing$Word;" ∈ bW := bW_mem 873 (by decide +kernel) (by decide +kernel)
theorem lk_875 : Cond.methodLink RX7 24 ⟨RX7, "isAt", "(LPromenadeRing$Word;)Z"⟩ ∈ bW := bW_mem 875 (by decide +kernel) (by decide +kernel)
theorem lk_876 : Cond.sameMethod RX7 RX4 "isAt" "(LPromenadeRing$Word;)Z" ∈ bW := bW_mem 876 (by decide +kernel) (by decide +kernel)
theorem lk_877 : Cond.selects RX7 ⟨RX7, "isAt", "(LPromenadeRing$Word;)Z"⟩ yX4_isAt ∈ bW := bW_mem 877 (by decide +kernel) (by decide +kernel)
theorem lk_889 : Cond.fieldLink RX7 32 "PromenadeRing$Word" "WALKER" "LPromenadeRing$Word;" ∈ bW := bW_mem 889 (by decide +kernel) (by decide +kernel)
theorem lk_912 : Cond.fieldLink RX7 38 "PromenadeRing$Word" "SHUNS" "LPromenadeRing$Word;" ∈ bW := bW_mem 912 (by decide +kernel) (by decide +kernel)
theorem lk_924 : Cond.fieldLink RX7 47 "PromenadeRing$Word" "SHELTER" "LPromenadeRing$Word;" ∈ bW := bW_mem 924 (by decide +kernel) (by decide +kernel)
theorem lk_932 : Cond.fieldLink RX7 53 "PromenadeRing$Word" "BAND" "LPromenadeRing$Word;" ∈ bW := bW_mem 932 (by decide +kernel) (by decide +kernel)
theorem lk_934 : Cond.fieldLink RX7 67 "PromenadeRing$Word" "MIST" "LPromenadeRing$Word;" ∈ bW := bW_mem 934 (by decide +kernel) (by decide +kernel)
theorem lk_936 : Cond.fieldLink RX7 73 "PromenadeRing$Word" "MISTY" "LPromenadeRing$Word;" ∈ bW := bW_mem 936 (by decide +kernel) (by decide +kernel)
theorem lk_938 : Cond.fieldLink RX7 80 "PromenadeRing$Word" "HOUR" "LPromenadeRing$Word;" ∈ bW := bW_mem 938 (by decide +kernel) (by decide +kernel)
theorem lk_926 : Cond.methodLink RX7 50 yX7_readShelter ∈ bW := bW_mem 926 (by decide +kernel) (by decide +kernel)
theorem lk_929 : Cond.code yX7_readShelter cX7_readShelter 3 (some .boolean) ∈ bW := bW_mem 929 (by decide +kernel) (by decide +kernel)
theorem lk_928 : Cond.instanceMethod yX7_readShelter ∈ bW := bW_mem 928 (by decide +kernel) (by decide +kernel)
theorem lk_33 : Cond.selects RX7 yX7_readShelter yX7_readShelter ∈ bW := bW_mem 33 (by decide +kernel) (by decide +kernel)
theorem lk_914 : Cond.methodLink RX7 44 yX7_readShuns ∈ bW := bW_mem 914 (by decide +kernel) (by decide +kernel)
theorem lk_917 : Cond.code yX7_readShuns cX7_readShuns 3 (some .boolean) ∈ bW := bW_mem 917 (by decide +kernel) (by decide +kernel)
theorem lk_916 : Cond.instanceMethod yX7_readShuns ∈ bW := bW_mem 916 (by decide +kernel) (by decide +kernel)
theorem lk_32 : Cond.selects RX7 yX7_readShuns yX7_readShuns ∈ bW := bW_mem 32 (by decide +kernel) (by decide +kernel)
theorem lk_891 : Cond.methodLink RX7 35 yX7_readWalker ∈ bW := bW_mem 891 (by decide +kernel) (by decide +kernel)
theorem lk_894 : Cond.code yX7_readWalker cX7_readWalker 3 (some .boolean) ∈ bW := bW_mem 894 (by decide +kernel) (by decide +kernel)
theorem lk_893 : Cond.instanceMethod yX7_readWalker ∈ bW := bW_mem 893 (by decide +kernel) (by decide +kernel)
theorem lk_29 : Cond.selects RX7 yX7_readWalker yX7_readWalker ∈ bW := bW_mem 29 (by decide +kernel) (by decide +kernel)
theorem lk_878 : Cond.methodLink RX7 28 yX7_readLong ∈ bW := bW_mem 878 (by decide +kernel) (by decide +kernel)
theorem lk_881 : Cond.code yX7_readLong cX7_readLong 2 (some .boolean) ∈ bW := bW_mem 881 (by decide +kernel) (by decide +kernel)
theorem lk_880 : Cond.instanceMethod yX7_readLong ∈ bW := bW_mem 880 (by decide +kernel) (by decide +kernel)
theorem lk_28 : Cond.selects RX7 yX7_readLong yX7_readLong ∈ bW := bW_mem 28 (by decide +kernel) (by decide +kernel)
theorem lk_731 : Cond.methodLink RX4 40 ⟨RX4, "readLine", "()Z"⟩ ∈ bW := bW_mem 731 (by decide +kernel) (by decide +kernel)
theorem lk_733 : Cond.sameMethod RX4 RX4 "readLine" "()Z" ∈ bW := bW_mem 733 (by decide +kernel) (by decide +kernel)
theorem lk_870 : Cond.selects RX7 ⟨RX4, "readLine", "()Z"⟩ yX7_readLine ∈ bW := bW_mem 870 (by decide +kernel) (by decide +kernel)
theorem lk_871 : Cond.instanceMethod yX7_readLine ∈ bW := bW_mem 871 (by decide +kernel) (by decide +kernel)
theorem lk_872 : Cond.code yX7_readLine cX7_readLine 2 (some .boolean) ∈ bW := bW_mem 872 (by decide +kernel) (by decide +kernel)
theorem ln_732 : Cond.declares ⟨RX4, "readLine", "()Z"⟩ ∈ nW := nW_mem 732 (by decide +kernel) (by decide +kernel)
theorem lk_940 : Cond.methodLink RX4 44 ⟨RX4, "takeSign", "(C)Z"⟩ ∈ bW := bW_mem 940 (by decide +kernel) (by decide +kernel)
theorem lk_2283 : Cond.sameMethod RX4 RX4 "takeSign" "(C)Z" ∈ bW := bW_mem 2283 (by decide +kernel) (by decide +kernel)
theorem lk_2285 : Cond.selects RX7 ⟨RX4, "takeSign", "(C)Z"⟩ yX4_takeSign ∈ bW := bW_mem 2285 (by decide +kernel) (by decide +kernel)
theorem lk_724 : Cond.methodLink RX4 31 Lib.Math.min.name ∈ bW := bW_mem 724 (by decide +kernel) (by decide +kernel)
theorem lk_734 : Cond.selects RX2 ⟨RX4, "readLine", "()Z"⟩ yX2_readLine ∈ bW := bW_mem 734 (by decide +kernel) (by decide +kernel)
theorem lk_735 : Cond.instanceMethod yX2_readLine ∈ bW := bW_mem 735 (by decide +kernel) (by decide +kernel)
theorem lk_736 : Cond.code yX2_readLine cX2_readLine 3 (some .boolean) ∈ bW := bW_mem 736 (by decide +kernel) (by decide +kernel)
theorem lk_2284 : Cond.selects RX2 ⟨RX4, "takeSign", "(C)Z"⟩ yX4_takeSign ∈ bW := bW_mem 2284 (by decide +kernel) (by decide +kernel)
theorem cw_X8_91 : cwd RX8 91 yX8_yards cX8_yards 4 (some .int) 2 := ⟨lk_589, lk_591, lk_6, lk_168, lk_592, by decide, by decide, by decide +kernel⟩
theorem cw_X8_121 : cwd RX8 121 yX8_allHats cX8_allHats 3 (some .int) 0 := ⟨lk_1114, lk_546, lk_1, lk_168, lk_547, by decide, by decide, by decide +kernel⟩
theorem cw_X8_104 : cwd RX8 104 yX8_placeOf cX8_placeOf 2 (some .int) 1 := ⟨lk_1102, lk_1104, lk_44, lk_168, lk_1105, by decide, by decide, by decide +kernel⟩
theorem cw_X8_128 : cwd RX8 128 yX8_everyShelter cX8_everyShelter 1 (some .int) 0 := ⟨lk_1151, lk_610, lk_8, lk_168, lk_611, by decide, by decide, by decide +kernel⟩
theorem cw_X8_131 : cwd RX8 131 yX8_farOf cX8_farOf 6 (some .int) 2 := ⟨lk_1152, lk_614, lk_9, lk_168, lk_615, by decide, by decide, by decide +kernel⟩
theorem cw_X8_113 : cwd RX8 113 yX8_yardsAhead cX8_yardsAhead 4 (some .int) 1 := ⟨lk_678, lk_680, lk_20, lk_168, lk_681, by decide, by decide, by decide +kernel⟩
theorem cw_X8_116 : cwdS RX8 116 yJ6_bitCount_0f7a4 cJ6_bitCount_0f7a4 1 (some .int) 1 := ⟨lk_685, lk_686, lk_191, lk_687, by decide, by decide, by decide +kernel⟩
theorem cw_X5_34 : cwdS RX5 34 yJ9_floorMod_7cf53 cJ9_floorMod_7cf53 3 (some .int) 2 := ⟨lk_1535, lk_1536, lk_178, lk_1537, by decide, by decide, by decide +kernel⟩
theorem cn_X8_81 : cwdN RX8 81 yX5_become "PromenadeRing" cX5_become 2 none 1 := ⟨ln_563, lk_565, lk_3, lk_169, lk_566, by decide, by decide, by decide +kernel⟩
theorem cw_X1_55 : cwdS RX1 55 yX1_joined cX1_joined 3 (some .int) 3 := ⟨lk_691, lk_692, lk_171, lk_693, by decide, by decide, by decide +kernel⟩
theorem cn_X1_52 : cwdN RX1 52 yX8_figureOf "PromenadeRing" cX8_figureOf 3 (some .int) 2 := ⟨ln_674, lk_676, lk_19, lk_168, lk_677, by decide, by decide, by decide +kernel⟩
theorem cw_X1_36 : cwd RX1 36 yX1_holds cX1_holds 8 (some .boolean) 4 := ⟨lk_670, lk_672, lk_18, lk_171, lk_673, by decide, by decide, by decide +kernel⟩
theorem cn_X8_108 : cwdN RX8 108 yX5_write "PromenadeRing" cX5_write 5 none 4 := ⟨ln_1097, lk_1099, lk_43, lk_169, lk_1100, by decide, by decide, by decide +kernel⟩
theorem cn_X8_85 : cwdN RX8 85 yX1_strideOf "PromenadeRing" cX1_strideOf 7 (some .int) 2 := ⟨ln_1092, lk_668, lk_17, lk_171, lk_669, by decide, by decide, by decide +kernel⟩
theorem cw_X8_100 : cwd RX8 100 yX8_comeBy cX8_comeBy 4 none 3 := ⟨lk_1093, lk_1095, lk_42, lk_168, lk_1096, by decide, by decide, by decide +kernel⟩
theorem cw_X6_31 : cwdS RX6 31 yJ7_fill_53178 cJ7_fill_53178 4 none 2 := ⟨lk_1334, lk_625, lk_192, lk_626, by decide, by decide, by decide +kernel⟩
theorem cw_X6_37 : cwd RX6 37 yX6_leastBehind cX6_leastBehind 3 (some .int) 1 := ⟨lk_1344, lk_1346, lk_60, lk_172, lk_1347, by decide, by decide, by decide +kernel⟩
theorem cw_X6_41 : cwd RX6 41 yX6_countAll cX6_countAll 4 (some .int) 0 := ⟨lk_1359, lk_1338, lk_58, lk_172, lk_1339, by decide, by decide, by decide +kernel⟩
theorem cw_X3_38 : cwd RX3 38 yX3_greaterPart cX3_greaterPart 2 (some .int) 1 := ⟨lk_1396, lk_1398, lk_66, lk_173, lk_1399, by decide, by decide, by decide +kernel⟩
theorem cw_X3_32 : cwdS RX3 32 yJ7_fill_53178 cJ7_fill_53178 4 none 2 := ⟨lk_1395, lk_625, lk_192, lk_626, by decide, by decide, by decide +kernel⟩
theorem cw_X3_28 : cwdS RX3 28 yX3_fitsRows cX3_fitsRows 5 (some .boolean) 3 := ⟨lk_1376, lk_1377, lk_173, lk_1378, by decide, by decide, by decide +kernel⟩
theorem cn_X9_62 : cwdN RX9 62 yX8_yards "PromenadeRing" cX8_yards 4 (some .int) 2 := ⟨ln_635, lk_591, lk_6, lk_168, lk_592, by decide, by decide, by decide +kernel⟩
theorem cw_X9_46 : cwd RX9 46 yX9_worthIn cX9_worthIn 6 (some .int) 4 := ⟨lk_631, lk_633, lk_12, lk_174, lk_634, by decide, by decide, by decide +kernel⟩
theorem cw_X9_30 : cwdS RX9 30 yJ7_fill_53178 cJ7_fill_53178 4 none 2 := ⟨lk_624, lk_625, lk_192, lk_626, by decide, by decide, by decide +kernel⟩
theorem cw_X9_39 : cwd RX9 39 yX9_bestOf cX9_bestOf 6 (some .int) 3 := ⟨lk_627, lk_629, lk_11, lk_174, lk_630, by decide, by decide, by decide +kernel⟩
theorem cw_X9_43 : cwd RX9 43 yX9_firstBest cX9_firstBest 5 (some .int) 3 := ⟨lk_637, lk_639, lk_13, lk_174, lk_640, by decide, by decide, by decide +kernel⟩
theorem cw_X9_65 : cwd RX9 65 yX9_wouldGain cX9_wouldGain 7 (some .boolean) 3 := ⟨lk_645, lk_647, lk_15, lk_174, lk_648, by decide, by decide, by decide +kernel⟩
theorem cn_X0_61 : cwdN RX0 61 yX8_yards "PromenadeRing" cX8_yards 4 (some .int) 2 := ⟨ln_1466, lk_591, lk_6, lk_168, lk_592, by decide, by decide, by decide +kernel⟩
theorem cw_X0_45 : cwd RX0 45 yX0_worthWith cX0_worthWith 8 (some .int) 4 := ⟨lk_1462, lk_1464, lk_71, lk_175, lk_1465, by decide, by decide, by decide +kernel⟩
theorem cw_X0_41 : cwdS RX0 41 yX0_firstOf cX0_firstOf 2 (some .int) 1 := ⟨lk_1459, lk_1460, lk_175, lk_1461, by decide, by decide, by decide +kernel⟩
theorem cw_X0_31 : cwdS RX0 31 yJ7_fill_53178 cJ7_fill_53178 4 none 2 := ⟨lk_1469, lk_625, lk_192, lk_626, by decide, by decide, by decide +kernel⟩
theorem cw_X0_27 : cwd RX0 27 yX0_bestOf cX0_bestOf 6 (some .int) 2 := ⟨lk_1455, lk_1457, lk_70, lk_175, lk_1458, by decide, by decide, by decide +kernel⟩
theorem cw_X0_37 : cwd RX0 37 yX0_firstBest cX0_firstBest 5 (some .int) 3 := ⟨lk_1470, lk_1472, lk_72, lk_175, lk_1473, by decide, by decide, by decide +kernel⟩
theorem cw_X4_53 : cwd RX4 53 yJ0_length_8abf5 cJ0_length_8abf5 1 (some .int) 0 := ⟨lk_751, lk_752, lk_753, lk_181, lk_754, by decide, by decide, by decide +kernel⟩
theorem cw_X4_58 : cwd RX4 58 yJ0_charAt_5068e cJ0_charAt_5068e 2 (some .char) 1 := ⟨lk_761, lk_762, lk_763, lk_181, lk_764, by decide, by decide, by decide +kernel⟩
theorem cu_X4_62_X7 : cwdU RX4 62 ⟨RX4, "isAt", "(LPromenadeRing$Word;)Z"⟩ yX4_isAt RX7 RX4 cX4_isAt 3 (some .boolean) 1 := ⟨lk_745, lk_747, lk_749, lk_746, lk_166, lk_750, Or.inl rfl, by decide, by decide, by decide +kernel⟩
theorem cu_X4_37_X7 : cwdU RX4 37 ⟨RX4, "advance", "()V"⟩ yX4_advance RX7 RX4 cX4_advance 1 none 0 := ⟨lk_725, lk_727, lk_729, lk_726, lk_166, lk_730, Or.inl rfl, by decide, by decide, by decide +kernel⟩
theorem cu_X4_62_X2 : cwdU RX4 62 ⟨RX4, "isAt", "(LPromenadeRing$Word;)Z"⟩ yX4_isAt RX2 RX4 cX4_isAt 3 (some .boolean) 1 := ⟨lk_745, lk_747, lk_748, lk_746, lk_166, lk_750, Or.inl rfl, by decide, by decide, by decide +kernel⟩
theorem cu_X4_37_X2 : cwdU RX4 37 ⟨RX4, "advance", "()V"⟩ yX4_advance RX2 RX4 cX4_advance 1 none 0 := ⟨lk_725, lk_727, lk_728, lk_726, lk_166, lk_730, Or.inl rfl, by decide, by decide, by decide +kernel⟩
theorem cu_X4_66_X7 : cwdU RX4 66 ⟨RX4, "isAtSign", "(C)Z"⟩ yX4_isAtSign RX7 RX4 cX4_isAtSign 2 (some .boolean) 1 := ⟨lk_851, lk_2280, lk_2282, lk_839, lk_166, lk_840, Or.inl rfl, by decide, by decide, by decide +kernel⟩
theorem cu_X4_66_X2 : cwdU RX4 66 ⟨RX4, "isAtSign", "(C)Z"⟩ yX4_isAtSign RX2 RX4 cX4_isAtSign 2 (some .boolean) 1 := ⟨lk_851, lk_2280, lk_2281, lk_839, lk_166, lk_840, Or.inl rfl, by decide, by decide, by decide +kernel⟩
theorem cu_X2_89_X2 : cwdU RX2 89 ⟨RX2, "takeSign", "(C)Z"⟩ yX4_takeSign RX2 RX4 cX4_takeSign 3 (some .boolean) 1 := ⟨lk_845, lk_846, lk_848, lk_849, lk_166, lk_850, Or.inl rfl, by decide, by decide, by decide +kernel⟩
theorem cu_X2_81_X2 : cwdU RX2 81 ⟨RX2, "codeHere", "()I"⟩ yX4_codeHere RX2 RX4 cX4_codeHere 2 (some .int) 0 := ⟨lk_852, lk_853, lk_855, lk_856, lk_166, lk_857, Or.inl rfl, by decide, by decide, by decide +kernel⟩
theorem cu_X2_37_X2 : cwdU RX2 37 ⟨RX2, "advance", "()V"⟩ yX4_advance RX2 RX4 cX4_advance 1 none 0 := ⟨lk_807, lk_808, lk_810, lk_726, lk_166, lk_730, Or.inl rfl, by decide, by decide, by decide +kernel⟩
theorem cu_X2_40_X2 : cwdU RX2 40 ⟨RX2, "takeNumber", "(II)I"⟩ yX4_takeNumber RX2 RX4 cX4_takeNumber 4 (some .int) 2 := ⟨lk_811, lk_812, lk_814, lk_815, lk_166, lk_816, Or.inl rfl, by decide, by decide, by decide +kernel⟩
theorem cn_X2_48 : cwdN RX2 48 yX1_emit "PromenadeRing" cX1_emit 2 none 1 := ⟨ln_817, lk_819, lk_22, lk_171, lk_820, by decide, by decide, by decide +kernel⟩
theorem cu_X2_24_X2 : cwdU RX2 24 ⟨RX2, "take", "(LPromenadeRing$Word;)Z"⟩ yX4_take RX2 RX4 cX4_take 3 (some .boolean) 1 := ⟨lk_739, lk_740, lk_742, lk_743, lk_166, lk_744, Or.inl rfl, by decide, by decide, by decide +kernel⟩
theorem cw_X2_65 : cwd RX2 65 yX2_readAtom cX2_readAtom 4 (some .boolean) 1 := ⟨lk_829, lk_831, lk_24, lk_170, lk_832, by decide, by decide, by decide +kernel⟩
theorem cw_X2_78 : cwd RX2 78 yX2_readDeeper cX2_readDeeper 2 (some .boolean) 1 := ⟨lk_841, lk_843, lk_25, lk_170, lk_844, by decide, by decide, by decide +kernel⟩
theorem cw_X2_85 : cwd RX2 85 yX2_readSum cX2_readSum 3 (some .boolean) 0 := ⟨lk_860, lk_862, lk_26, lk_170, lk_863, by decide, by decide, by decide +kernel⟩
theorem cu_X2_31_X2 : cwdU RX2 31 ⟨RX2, "isAt", "(LPromenadeRing$Word;)Z"⟩ yX4_isAt RX2 RX4 cX4_isAt 3 (some .boolean) 1 := ⟨lk_801, lk_802, lk_804, lk_746, lk_166, lk_750, Or.inl rfl, by decide, by decide, by decide +kernel⟩
theorem cu_X2_74_X2 : cwdU RX2 74 ⟨RX2, "isAtSign", "(C)Z"⟩ yX4_isAtSign RX2 RX4 cX4_isAtSign 2 (some .boolean) 1 := ⟨lk_835, lk_836, lk_838, lk_839, lk_166, lk_840, Or.inl rfl, by decide, by decide, by decide +kernel⟩
theorem cw_X2_55 : cwd RX2 55 yX2_readAny cX2_readAny 4 (some .boolean) 1 := ⟨lk_823, lk_825, lk_23, lk_170, lk_826, by decide, by decide, by decide +kernel⟩
theorem cn_X2_59 : cwdN RX2 59 yX1_closeLine "PromenadeRing" cX1_closeLine 2 none 1 := ⟨ln_866, lk_868, lk_27, lk_171, lk_869, by decide, by decide, by decide +kernel⟩
theorem cu_X7_92_X7 : cwdU RX7 92 ⟨RX7, "advance", "()V"⟩ yX4_advance RX7 RX4 cX4_advance 1 none 0 := ⟨lk_882, lk_883, lk_884, lk_726, lk_166, lk_730, Or.inl rfl, by decide, by decide, by decide +kernel⟩
theorem cu_X7_60_X7 : cwdU RX7 60 ⟨RX7, "takeNumber", "(II)I"⟩ yX4_takeNumber RX7 RX4 cX4_takeNumber 4 (some .int) 2 := ⟨lk_885, lk_886, lk_887, lk_815, lk_166, lk_816, Or.inl rfl, by decide, by decide, by decide +kernel⟩
theorem cu_X7_41_X7 : cwdU RX7 41 ⟨RX7, "take", "(LPromenadeRing$Word;)Z"⟩ yX4_take RX7 RX4 cX4_take 3 (some .boolean) 1 := ⟨lk_901, lk_902, lk_903, lk_743, lk_166, lk_744, Or.inl rfl, by decide, by decide, by decide +kernel⟩
theorem cw_X7_103 : cwd RX7 103 yX7_readNumberAfter cX7_readNumberAfter 4 (some .int) 3 := ⟨lk_897, lk_899, lk_30, lk_167, lk_900, by decide, by decide, by decide +kernel⟩
theorem cu_X7_120_X7 : cwdU RX7 120 ⟨RX7, "isAtNumber", "(I)Z"⟩ yX4_isAtNumber RX7 RX4 cX4_isAtNumber 2 (some .boolean) 1 := ⟨lk_918, lk_919, lk_921, lk_922, lk_166, lk_923, Or.inl rfl, by decide, by decide, by decide +kernel⟩
theorem cn_X7_110 : cwdN RX7 110 yX8_addWalker "PromenadeRing" cX8_addWalker 3 none 2 := ⟨ln_906, lk_908, lk_31, lk_168, lk_909, by decide, by decide, by decide +kernel⟩
theorem cu_X7_24_X7 : cwdU RX7 24 ⟨RX7, "isAt", "(LPromenadeRing$Word;)Z"⟩ yX4_isAt RX7 RX4 cX4_isAt 3 (some .boolean) 1 := ⟨lk_875, lk_876, lk_877, lk_746, lk_166, lk_750, Or.inl rfl, by decide, by decide, by decide +kernel⟩
theorem cw_X7_50 : cwd RX7 50 yX7_readShelter cX7_readShelter 3 (some .boolean) 0 := ⟨lk_926, lk_928, lk_33, lk_167, lk_929, by decide, by decide, by decide +kernel⟩
theorem cw_X7_44 : cwd RX7 44 yX7_readShuns cX7_readShuns 3 (some .boolean) 0 := ⟨lk_914, lk_916, lk_32, lk_167, lk_917, by decide, by decide, by decide +kernel⟩
theorem cw_X7_35 : cwd RX7 35 yX7_readWalker cX7_readWalker 3 (some .boolean) 0 := ⟨lk_891, lk_893, lk_29, lk_167, lk_894, by decide, by decide, by decide +kernel⟩
theorem cw_X7_28 : cwd RX7 28 yX7_readLong cX7_readLong 2 (some .boolean) 0 := ⟨lk_878, lk_880, lk_28, lk_167, lk_881, by decide, by decide, by decide +kernel⟩
theorem cu_X4_40_X7 : cwdU RX4 40 ⟨RX4, "readLine", "()Z"⟩ yX7_readLine RX7 RX4 cX7_readLine 2 (some .boolean) 0 := ⟨lk_731, lk_733, lk_870, lk_871, lk_167, lk_872, Or.inr ln_732, by decide, by decide, by decide +kernel⟩
theorem cu_X4_44_X7 : cwdU RX4 44 ⟨RX4, "takeSign", "(C)Z"⟩ yX4_takeSign RX7 RX4 cX4_takeSign 3 (some .boolean) 1 := ⟨lk_940, lk_2283, lk_2285, lk_849, lk_166, lk_850, Or.inl rfl, by decide, by decide, by decide +kernel⟩
theorem cu_X4_40_X2 : cwdU RX4 40 ⟨RX4, "readLine", "()Z"⟩ yX2_readLine RX2 RX4 cX2_readLine 3 (some .boolean) 0 := ⟨lk_731, lk_733, lk_734, lk_735, lk_170, lk_736, Or.inr ln_732, by decide, by decide, by decide +kernel⟩
theorem cu_X4_44_X2 : cwdU RX4 44 ⟨RX4, "takeSign", "(C)Z"⟩ yX4_takeSign RX2 RX4 cX4_takeSign 3 (some .boolean) 1 := ⟨lk_940, lk_2283, lk_2284, lk_849, lk_166, lk_850, Or.inl rfl, by decide, by decide, by decide +kernel⟩
section GH
variable {S : Type} {p : Program} {l : Launch} {e : Env} {R : Room} {s : State} {m : MethodId} {args : Array Value} {below : List Frame} {meth : Method} {c : Code} {H : Heap} {locs : List Loc} {cells slots : Nat} {Q : State → Prop} {cc : ByteArray} {pc nL : Nat} {ls : Array Slot} {rest : List Value} {κ : EK} {D : va_G} {F : S → va_W} {T : List (ClassId × FieldType)} {adr : Nat → Prop} {sz : Nat} {E : eT}
def m_J9_floorMod_7cf53 {S : Type} (σ : S) (p0 : Int32) (p1 : Int32) (post : Int32 → S → Prop) : Prop := ¬ p1 = 0 ∧ ((0 ≤ (p0 ^^^ p1) → (post (p0 - p0 / p1 * p1) σ)) ∧ (¬ 0 ≤ (p0 ^^^ p1) → (((p0 - p0 / p1 * p1) = 0 → (post (p0 - p0 / p1 * p1) σ)) ∧ (¬ (p0 - p0 / p1 * p1) = 0 → (post ((p0 - p0 / p1 * p1) + p1) σ)))))
set_option maxHeartbeats 4000000 in
set_option maxRecDepth 100000 in
theorem c_J9_floorMod_7cf53 {S : Type} {l : Launch} {E : eT} {D : va_G} {F : S → va_W} {T : List (ClassId × FieldType)} {adr : Nat → Prop} (hF : fAd F adr) {sz : Nat} {σ : S} {p0 : Int32} {p1 : Int32} {post : Int32 → S → Prop} (h : m_J9_floorMod_7cf53 σ p0 p1 post) : Met l yJ9_floorMod_7cf53 (bC yJ9_floorMod_7cf53 cJ9_floorMod_7cf53 3 (some .int)) (rmD 0) (fP E adr D F T sz σ [.int p0, .int p1]) (va_Qi post (fB D F T adr sz) (fA adr sz)) 0 0 (fA adr sz) := by
  refine f_enterF hF (by decide +kernel) (Nat.le_of_ble_eq_true rfl) ?_
  intro p e s m below meth c hz K hr hk _ I ls hl
  have hx := K.x
  have hb := K.b
  have hl : lv_has ls 3 [(0, .int p0), (1, .int p1)] := hl
  unfold m_J9_floorMod_7cf53 at h
  refine lv_iload_n hx hb dJ9_floorMod_7cf53_0 rfl (lv_at hl 0 rfl) ?_
  refine lv_iload_n hx hb dJ9_floorMod_7cf53_1 rfl (lv_at hl 1 rfl) ?_
  obtain ⟨h0, h⟩ := h
  refine lv_irem hx hb dJ9_floorMod_7cf53_2 h0 ?_
  refine lv_istore_n (lv' := [(2, .int (p0 - p0 / p1 * p1)), (0, .int p0), (1, .int p1)]) hx hb dJ9_floorMod_7cf53_3 rfl hl (by decide) rfl (fun ls hl => ?_)
  refine lv_iload_n hx hb dJ9_floorMod_7cf53_4 rfl (lv_at hl 1 rfl) ?_
  refine lv_iload_n hx hb dJ9_floorMod_7cf53_5 rfl (lv_at hl 2 rfl) ?_
  refine lv_ixor hx hb dJ9_floorMod_7cf53_6 ?_
  refine lv_if_ge (tgt := 18) hx hb dJ9_floorMod_7cf53_7 (by decide) (fun c0 => ?_) (fun c0 => ?_)
  · replace h := h.1 c0
    refine lv_iload_n hx hb dJ9_floorMod_7cf53_18 rfl (lv_at hl 0 rfl) ?_
    exact f_ri K hr hk hz I h dJ9_floorMod_7cf53_19
  · replace h := h.2 c0
    refine lv_iload_n hx hb dJ9_floorMod_7cf53_10 rfl (lv_at hl 0 rfl) ?_
    refine lv_if_eq (tgt := 18) hx hb dJ9_floorMod_7cf53_11 (by decide) (fun c0 => ?_) (fun c0 => ?_)
    · replace h := h.1 c0
      refine lv_iload_n hx hb dJ9_floorMod_7cf53_18 rfl (lv_at hl 0 rfl) ?_
      exact f_ri K hr hk hz I h dJ9_floorMod_7cf53_19
    · replace h := h.2 c0
      refine lv_iload_n hx hb dJ9_floorMod_7cf53_14 rfl (lv_at hl 0 rfl) ?_
      refine lv_iload_n hx hb dJ9_floorMod_7cf53_15 rfl (lv_at hl 2 rfl) ?_
      refine lv_iadd hx hb dJ9_floorMod_7cf53_16 ?_
      exact f_ri K hr hk hz I h dJ9_floorMod_7cf53_17
theorem cl_J9_floorMod_7cf53 {own : String} {idx : Nat} {σ : S} {p0 : Int32} {p1 : Int32} {post : Int32 → S → Prop} (w : cwdS own idx yJ9_floorMod_7cf53 cJ9_floorMod_7cf53 3 (some .int) 2) (hF : fAd F adr) (K : fK p m c cc nL s args own D T (eV κ) adr) (I : fI D F adr s σ H locs) (hl : ls.size = nL) (h : m_J9_floorMod_7cf53 σ p0 p1 post) (hR : 0 + 1 ≤ R.frames ∧ 8 + (3 + 11) + 64 * 0 ≤ R.locals) (hW : (rest.map fun v => v.category).sum ≤ 8) (hcs : cells ≤ R.cells ∧ slots ≤ R.slots) (hdg : decode cc pc = .ok (.invokestatic idx, 3))
    (kk : ∀ (r : Int32) (σ' : S) (H1 : Heap) (locs1 : List Loc), post r σ' → fI D F adr s σ' H1 locs1 → W p l e R s m args below meth c H1 locs1 cells slots Q (F0 m (pc + 3) ls (.int r :: rest))) : W p l e R s m args below meth c H locs cells slots Q (F0 m pc ls (.int p1 :: .int p0 :: rest)) :=
  f_callSi (As := [.int p0, .int p1]) (eV_ok κ) hF w (c_J9_floorMod_7cf53 hF h) rfl rfl hR rfl hl hW K I hcs hdg kk
def m_J9_max_f86c9 {S : Type} (σ : S) (p0 : Int64) (p1 : Int64) (post : Int64 → S → Prop) : Prop := ((lg_cmp p0 p1) < 0 → (post p1 σ)) ∧ (¬ (lg_cmp p0 p1) < 0 → (post p0 σ))
set_option maxHeartbeats 4000000 in
set_option maxRecDepth 100000 in
theorem c_J9_max_f86c9 {S : Type} {l : Launch} {E : eT} {D : va_G} {F : S → va_W} {T : List (ClassId × FieldType)} {adr : Nat → Prop} (hF : fAd F adr) {sz : Nat} {σ : S} {p0 : Int64} {p1 : Int64} {post : Int64 → S → Prop} (h : m_J9_max_f86c9 σ p0 p1 post) : Met l yJ9_max_f86c9 (bC yJ9_max_f86c9 cJ9_max_f86c9 4 (some .long)) (rmD 0) (fP E adr D F T sz σ [.long p0, .long p1]) (va_Ql post (fB D F T adr sz) (fA adr sz)) 0 0 (fA adr sz) := by
  refine f_enterF hF (by decide +kernel) (Nat.le_of_ble_eq_true rfl) ?_
  intro p e s m below meth c hz K hr hk _ I ls hl
  have hx := K.x
  have hb := K.b
  have hl : lv_has ls 4 [(0, .long p0), (2, .long p1)] := hl
  unfold m_J9_max_f86c9 at h
  refine lv_lload_n hx hb dJ9_max_f86c9_0 rfl (lv_at hl 0 rfl) ?_
  refine lv_lload_n hx hb dJ9_max_f86c9_1 rfl (lv_at hl 1 rfl) ?_
  refine W.lcmp hx hb dJ9_max_f86c9_2 ?_
  refine lv_if_lt (tgt := 10) hx hb dJ9_max_f86c9_3 (by decide) (fun c0 => ?_) (fun c0 => ?_)
  · replace h := h.1 c0
    refine lv_lload_n hx hb dJ9_max_f86c9_10 rfl (lv_at hl 1 rfl) ?_
    exact f_rl K hr hk hz I h dJ9_max_f86c9_11
  · replace h := h.2 c0
    refine lv_lload_n hx hb dJ9_max_f86c9_6 rfl (lv_at hl 0 rfl) ?_
    refine lv_goto (tgt := 11) hx hb dJ9_max_f86c9_7 (by decide) ?_
    exact f_rl K hr hk hz I h dJ9_max_f86c9_11
theorem cl_J9_max_f86c9 {own : String} {idx : Nat} {σ : S} {p0 : Int64} {p1 : Int64} {post : Int64 → S → Prop} (w : cwdS own idx yJ9_max_f86c9 cJ9_max_f86c9 4 (some .long) 2) (hF : fAd F adr) (K : fK p m c cc nL s args own D T (eV κ) adr) (I : fI D F adr s σ H locs) (hl : ls.size = nL) (h : m_J9_max_f86c9 σ p0 p1 post) (hR : 0 + 1 ≤ R.frames ∧ 8 + (4 + 11) + 64 * 0 ≤ R.locals) (hW : (rest.map fun v => v.category).sum ≤ 8) (hcs : cells ≤ R.cells ∧ slots ≤ R.slots) (hdg : decode cc pc = .ok (.invokestatic idx, 3))
    (kk : ∀ (r : Int64) (σ' : S) (H1 : Heap) (locs1 : List Loc), post r σ' → fI D F adr s σ' H1 locs1 → W p l e R s m args below meth c H1 locs1 cells slots Q (F0 m (pc + 3) ls (.long r :: rest))) : W p l e R s m args below meth c H locs cells slots Q (F0 m pc ls (.long p1 :: .long p0 :: rest)) :=
  f_callSl (As := [.long p0, .long p1]) (eV_ok κ) hF w (c_J9_max_f86c9 hF h) rfl rfl hR rfl hl hW K I hcs hdg kk
def q_X11_power_5 {S : Type} (post : Int64 → S → Prop) : Nat → Int32 → Int32 → Int64 → Int32 → S → Prop
  | 0, _, _, _, _, _ => False
  | n + 1, x0, x1, x2, x4, σ => (x1 ≤ x4 → (post x2 σ)) ∧ (¬ x1 ≤ x4 → ((q_X11_power_5 post n) x0 x1 (x2 * x0.toInt64) (x4 + 1) σ))
set_option maxHeartbeats 4000000 in
set_option maxRecDepth 100000 in
theorem w_X11_power_5 {post : Int64 → S → Prop} (K : fK p m c cX11_power 5 s args RX11 D T E adr) (hr : meth.sig.returnType = (some .long)) (hk : meth.locks = false) (hz : s.heap.size = sz)  : ∀ (n : Nat) (x0 : Int32) (x1 : Int32) (x2 : Int64) (x4 : Int32) (σ : S) (H : Heap) (locs : List Loc) (ls : Array Slot), q_X11_power_5 post n x0 x1 x2 x4 σ → fI D F adr s σ H locs → lv_has ls 5 [(0, .int x0), (1, .int x1), (2, .long x2), (4, .int x4)] → W p l e (rmD 0) s m args below meth c H locs 0 0 (MQ below (va_Ql post (fB D F T adr sz) (fA adr sz)) args s 0 0 (fA adr sz)) (F0 m 5 ls []) := by
  have hx := K.x
  have hb := K.b
  intro n
  induction n with
  | zero => intro x0 x1 x2 x4 σ H locs ls h; exact h.elim
  | succ n ih =>
    intro x0 x1 x2 x4 σ H locs ls h I hl
    rw [q_X11_power_5] at h
    refine lv_iload hx hb dX11_power_5 (lv_at hl 3 rfl) ?_
    refine lv_iload_n hx hb dX11_power_7 rfl (lv_at hl 1 rfl) ?_
    refine lv_icmp_ge (tgt := 22) hx hb dX11_power_8 (by decide) (fun c0 => ?_) (fun c0 => ?_)
    · replace h := h.1 c0
      refine lv_lload_n hx hb dX11_power_22 rfl (lv_at hl 2 rfl) ?_
      exact f_rl K hr hk hz I h dX11_power_23
    · replace h := h.2 c0
      refine lv_lload_n hx hb dX11_power_11 rfl (lv_at hl 2 rfl) ?_
      refine lv_iload_n hx hb dX11_power_12 rfl (lv_at hl 0 rfl) ?_
      refine lv_i2l hx hb dX11_power_13 rfl ?_
      refine lv_lmul hx hb dX11_power_14 ?_
      refine lv_lstore_n (lv' := [(2, .long (x2 * x0.toInt64)), (0, .int x0), (1, .int x1), (4, .int x4)]) hx hb dX11_power_15 rfl hl (by decide) rfl (fun ls hl => ?_)
      refine lv_iinc (v := x4 + 1) (lv' := [(4, .int (x4 + 1)), (2, .long (x2 * x0.toInt64)), (0, .int x0), (1, .int x1)]) hx hb dX11_power_16 hl (k := 3) rfl rfl (by decide) rfl (fun ls hl => ?_)
      refine lv_goto (tgt := 5) hx hb dX11_power_19 (by decide) ?_
      exact ih _ _ _ _ _ _ _ _ h I (lv_sub hl [2, 3, 1, 0] rfl)
def m_X11_power {S : Type} (σ : S) (p0 : Int32) (p1 : Int32) (post : Int64 → S → Prop) : Prop := ∃ k0, q_X11_power_5 post k0 p0 p1 1 0 σ
set_option maxHeartbeats 4000000 in
set_option maxRecDepth 100000 in
theorem c_X11_power {S : Type} {l : Launch} {E : eT} {D : va_G} {F : S → va_W} {T : List (ClassId × FieldType)} {adr : Nat → Prop} (hF : fAd F adr) {sz : Nat} {σ : S} {p0 : Int32} {p1 : Int32} {post : Int64 → S → Prop} (h : m_X11_power σ p0 p1 post) : Met l yX11_power (bC yX11_power cX11_power 5 (some .long)) (rmD 0) (fP E adr D F T sz σ [.int p0, .int p1]) (va_Ql post (fB D F T adr sz) (fA adr sz)) 0 0 (fA adr sz) := by
  refine f_enter hF (by decide) (Nat.le_of_ble_eq_true rfl) ?_
  intro p e s m below meth c hz K hr hk _ I ls hl
  have hx := K.x
  have hb := K.b
  have hl : lv_has ls 5 [(0, .int p0), (1, .int p1)] := hl
  unfold m_X11_power at h
  refine lv_lconst (v := 1) hx hb dX11_power_0 (by decide) ?_
  refine lv_lstore_n (lv' := [(2, .long 1), (0, .int p0), (1, .int p1)]) hx hb dX11_power_1 rfl hl (by decide) rfl (fun ls hl => ?_)
  refine lv_iconst (v := 0) hx hb dX11_power_2 (by decide) ?_
  refine lv_istore (lv' := [(4, .int 0), (2, .long 1), (0, .int p0), (1, .int p1)]) hx hb dX11_power_3 hl (by decide) rfl (fun ls hl => ?_)
  obtain ⟨n0, h⟩ := h
  exact w_X11_power_5 K hr hk hz n0 _ _ _ _ _ _ _ _ h I (lv_sub hl [2, 3, 1, 0] rfl)
theorem cl_X11_power {own : String} {idx : Nat} {σ : S} {p0 : Int32} {p1 : Int32} {post : Int64 → S → Prop} (w : cwdS own idx yX11_power cX11_power 5 (some .long) 2) (hF : fAd F adr) (K : fK p m c cc nL s args own D T (eV κ) adr) (I : fI D F adr s σ H locs) (hl : ls.size = nL) (h : m_X11_power σ p0 p1 post) (hR : 0 + 1 ≤ R.frames ∧ 8 + (5 + 11) + 64 * 0 ≤ R.locals) (hW : (rest.map fun v => v.category).sum ≤ 8) (hcs : cells ≤ R.cells ∧ slots ≤ R.slots) (hdg : decode cc pc = .ok (.invokestatic idx, 3))
    (kk : ∀ (r : Int64) (σ' : S) (H1 : Heap) (locs1 : List Loc), post r σ' → fI D F adr s σ' H1 locs1 → W p l e R s m args below meth c H1 locs1 cells slots Q (F0 m (pc + 3) ls (.long r :: rest))) : W p l e R s m args below meth c H locs cells slots Q (F0 m pc ls (.int p1 :: .int p0 :: rest)) :=
  f_callSl (As := [.int p0, .int p1]) (eV_ok κ) hF w (c_X11_power hF h) rfl rfl hR rfl hl hW K I hcs hdg kk
end GH
