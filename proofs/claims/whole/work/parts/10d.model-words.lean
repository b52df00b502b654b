/-! words of the tables, by their places; classes, fields, methods -/
theorem wd_50 : Cond.selects RX9 yX9_isGood yX9_isGood ∈ zv_U := zv_in (n := 50) (by decide +kernel) (by decide +kernel)
theorem wd_51 : Cond.selects RX9 yX9_lead yX9_lead ∈ zv_U := zv_in (n := 51) (by decide +kernel) (by decide +kernel)
theorem wd_52 : Cond.selects RX9 yX9_judge yX9_judge ∈ zv_U := zv_in (n := 52) (by decide +kernel) (by decide +kernel)
theorem wd_53 : Cond.selects RX9 yX9_take yX9_take ∈ zv_U := zv_in (n := 53) (by decide +kernel) (by decide +kernel)
theorem wd_54 : Cond.selects RX9 yX9_push yX9_push ∈ zv_U := zv_in (n := 54) (by decide +kernel) (by decide +kernel)
theorem wd_55 : Cond.selects RX9 yX9_code yX9_code ∈ zv_U := zv_in (n := 55) (by decide +kernel) (by decide +kernel)
theorem wd_56 : Cond.selects RX9 yX9_judgeLoad yX9_judgeLoad ∈ zv_U := zv_in (n := 56) (by decide +kernel) (by decide +kernel)
theorem wd_57 : Cond.selects RX9 yX9_pop yX9_pop ∈ zv_U := zv_in (n := 57) (by decide +kernel) (by decide +kernel)
theorem wd_58 : Cond.selects RX9 yX9_judgeStack yX9_judgeStack ∈ zv_U := zv_in (n := 58) (by decide +kernel) (by decide +kernel)
theorem wd_59 : Cond.selects RX9 yX9_popEither yX9_popEither ∈ zv_U := zv_in (n := 59) (by decide +kernel) (by decide +kernel)
theorem wd_60 : Cond.selects RX9 yX9_judgeReckoning yX9_judgeReckoning ∈ zv_U := zv_in (n := 60) (by decide +kernel) (by decide +kernel)
theorem wd_61 : Cond.selects RX9 yX9_judgeBranch yX9_judgeBranch ∈ zv_U := zv_in (n := 61) (by decide +kernel) (by decide +kernel)
theorem wd_62 : Cond.selects RX9 yX9_to yX9_to ∈ zv_U := zv_in (n := 62) (by decide +kernel) (by decide +kernel)
theorem wd_63 : Cond.selects RX9 yX9_judgeThing yX9_judgeThing ∈ zv_U := zv_in (n := 63) (by decide +kernel) (by decide +kernel)
theorem wd_64 : Cond.selects RX9 yX9_open yX9_open ∈ zv_U := zv_in (n := 64) (by decide +kernel) (by decide +kernel)
theorem wd_65 : Cond.selects RX9 yX9_step yX9_step ∈ zv_U := zv_in (n := 65) (by decide +kernel) (by decide +kernel)
theorem wd_66 : Cond.selects RX9 yX9_doLoad yX9_doLoad ∈ zv_U := zv_in (n := 66) (by decide +kernel) (by decide +kernel)
theorem wd_67 : Cond.selects RX9 yX9_pushValue yX9_pushValue ∈ zv_U := zv_in (n := 67) (by decide +kernel) (by decide +kernel)
theorem wd_68 : Cond.selects RX9 yX9_doFetch yX9_doFetch ∈ zv_U := zv_in (n := 68) (by decide +kernel) (by decide +kernel)
theorem wd_69 : Cond.selects RX9 yX9_peek yX9_peek ∈ zv_U := zv_in (n := 69) (by decide +kernel) (by decide +kernel)
theorem wd_70 : Cond.selects RX9 yX9_wrong yX9_wrong ∈ zv_U := zv_in (n := 70) (by decide +kernel) (by decide +kernel)
theorem wd_71 : Cond.selects RX9 yX9_fail yX9_fail ∈ zv_U := zv_in (n := 71) (by decide +kernel) (by decide +kernel)
theorem wd_72 : Cond.selects RX9 yX9_raise yX9_raise ∈ zv_U := zv_in (n := 72) (by decide +kernel) (by decide +kernel)
theorem wd_73 : Cond.selects RX9 yX9_make yX9_make ∈ zv_U := zv_in (n := 73) (by decide +kernel) (by decide +kernel)
theorem wd_74 : Cond.selects RX9 yX9_reach yX9_reach ∈ zv_U := zv_in (n := 74) (by decide +kernel) (by decide +kernel)
theorem wd_75 : Cond.selects RX9 yX9_meet yX9_meet ∈ zv_U := zv_in (n := 75) (by decide +kernel) (by decide +kernel)
theorem wd_76 : Cond.selects RX9 yX9_sweep yX9_sweep ∈ zv_U := zv_in (n := 76) (by decide +kernel) (by decide +kernel)
theorem wd_77 : Cond.selects RX9 yX9_hurl yX9_hurl ∈ zv_U := zv_in (n := 77) (by decide +kernel) (by decide +kernel)
theorem wd_78 : Cond.selects RX9 yX9_isOf yX9_isOf ∈ zv_U := zv_in (n := 78) (by decide +kernel) (by decide +kernel)
theorem wd_79 : Cond.selects RX9 yX9_popValue yX9_popValue ∈ zv_U := zv_in (n := 79) (by decide +kernel) (by decide +kernel)
theorem wd_80 : Cond.selects RX9 yX9_doStore yX9_doStore ∈ zv_U := zv_in (n := 80) (by decide +kernel) (by decide +kernel)
theorem wd_81 : Cond.selects RX9 yX9_doStack yX9_doStack ∈ zv_U := zv_in (n := 81) (by decide +kernel) (by decide +kernel)
theorem wd_82 : Cond.selects RX9 yX9_doReckoning yX9_doReckoning ∈ zv_U := zv_in (n := 82) (by decide +kernel) (by decide +kernel)
theorem wd_83 : Cond.selects RX9 yX9_goes yX9_goes ∈ zv_U := zv_in (n := 83) (by decide +kernel) (by decide +kernel)
theorem wd_84 : Cond.selects RX9 yX9_doEnd yX9_doEnd ∈ zv_U := zv_in (n := 84) (by decide +kernel) (by decide +kernel)
theorem wd_85 : Cond.selects RX9 yX9_doCall yX9_doCall ∈ zv_U := zv_in (n := 85) (by decide +kernel) (by decide +kernel)
theorem wd_86 : Cond.selects RX9 yX9_doThrow yX9_doThrow ∈ zv_U := zv_in (n := 86) (by decide +kernel) (by decide +kernel)
theorem wd_87 : Cond.selects RX9 yX9_doThing yX9_doThing ∈ zv_U := zv_in (n := 87) (by decide +kernel) (by decide +kernel)
theorem wd_88 : Cond.selects RX9 yX9_noRoom yX9_noRoom ∈ zv_U := zv_in (n := 88) (by decide +kernel) (by decide +kernel)
theorem wd_89 : Cond.selects RX9 yX9_doField yX9_doField ∈ zv_U := zv_in (n := 89) (by decide +kernel) (by decide +kernel)
theorem wd_103 : Cond.initialized RX9 ∈ zv_U := zv_in (n := 103) (by decide +kernel) (by decide +kernel)
theorem wd_130 : Cond.instanceMethod objectInit ∈ zv_U := zv_in (n := 130) (by decide +kernel) (by decide +kernel)
theorem wd_131 : Cond.code objectInit ⟨#[0xb1]⟩ 1 none ∈ zv_U := zv_in (n := 131) (by decide +kernel) (by decide +kernel)
theorem wd_156 : Cond.arrayClass .int ∈ zv_U := zv_in (n := 156) (by decide +kernel) (by decide +kernel)
theorem wd_248 : Cond.arrayClass .boolean ∈ zv_U := zv_in (n := 248) (by decide +kernel) (by decide +kernel)
theorem wd_365 : Cond.arrayClass .long ∈ zv_U := zv_in (n := 365) (by decide +kernel) (by decide +kernel)
theorem wd_1403 : Cond.methodLink RX9 1 objectInit ∈ zv_U := zv_in (n := 1403) (by decide +kernel) (by decide +kernel)
theorem wd_1404 : Cond.fieldLink RX9 127 "GuestFramesModel" "thrown" "I" ∈ zv_U := zv_in (n := 1404) (by decide +kernel) (by decide +kernel)
theorem wd_1405 : Cond.fieldLink RX9 120 "GuestFramesModel" "words" "I" ∈ zv_U := zv_in (n := 1405) (by decide +kernel) (by decide +kernel)
theorem wd_1406 : Cond.fieldLink RX9 7 "GuestFramesModel" "parents" "[I" ∈ zv_U := zv_in (n := 1406) (by decide +kernel) (by decide +kernel)
theorem wd_1407 : Cond.fieldLink RX9 13 "GuestFramesModel" "fieldCounts" "[I" ∈ zv_U := zv_in (n := 1407) (by decide +kernel) (by decide +kernel)
theorem wd_1408 : Cond.fieldLink RX9 16 "GuestFramesModel" "fieldKinds" "[I" ∈ zv_U := zv_in (n := 1408) (by decide +kernel) (by decide +kernel)
theorem wd_1409 : Cond.fieldLink RX9 124 "GuestFramesModel" "classes" "I" ∈ zv_U := zv_in (n := 1409) (by decide +kernel) (by decide +kernel)
theorem wd_1410 : Cond.fieldLink RX9 19 "GuestFramesModel" "tape" "[I" ∈ zv_U := zv_in (n := 1410) (by decide +kernel) (by decide +kernel)
theorem wd_1411 : Cond.fieldLink RX9 130 "GuestFramesModel" "tapeSize" "I" ∈ zv_U := zv_in (n := 1411) (by decide +kernel) (by decide +kernel)
theorem wd_1412 : Cond.fieldLink RX9 22 "GuestFramesModel" "next" "[I" ∈ zv_U := zv_in (n := 1412) (by decide +kernel) (by decide +kernel)
theorem wd_1413 : Cond.fieldLink RX9 133 "GuestFramesModel" "nextCount" "I" ∈ zv_U := zv_in (n := 1413) (by decide +kernel) (by decide +kernel)
theorem wd_1414 : Cond.fieldLink RX9 25 "GuestFramesModel" "handlers" "[I" ∈ zv_U := zv_in (n := 1414) (by decide +kernel) (by decide +kernel)
theorem wd_1415 : Cond.fieldLink RX9 28 "GuestFramesModel" "handlerCounts" "[I" ∈ zv_U := zv_in (n := 1415) (by decide +kernel) (by decide +kernel)
theorem wd_1416 : Cond.fieldLink RX9 31 "GuestFramesModel" "argumentCounts" "[I" ∈ zv_U := zv_in (n := 1416) (by decide +kernel) (by decide +kernel)
theorem wd_1417 : Cond.fieldLink RX9 34 "GuestFramesModel" "arguments" "[I" ∈ zv_U := zv_in (n := 1417) (by decide +kernel) (by decide +kernel)
theorem wd_1418 : Cond.fieldLink RX9 37 "GuestFramesModel" "localCounts" "[I" ∈ zv_U := zv_in (n := 1418) (by decide +kernel) (by decide +kernel)
theorem wd_1419 : Cond.fieldLink RX9 40 "GuestFramesModel" "stackSizes" "[I" ∈ zv_U := zv_in (n := 1419) (by decide +kernel) (by decide +kernel)
theorem wd_1420 : Cond.fieldLink RX9 43 "GuestFramesModel" "results" "[I" ∈ zv_U := zv_in (n := 1420) (by decide +kernel) (by decide +kernel)
theorem wd_1421 : Cond.fieldLink RX9 46 "GuestFramesModel" "codes" "[I" ∈ zv_U := zv_in (n := 1421) (by decide +kernel) (by decide +kernel)
theorem wd_1422 : Cond.fieldLink RX9 49 "GuestFramesModel" "lengths" "[I" ∈ zv_U := zv_in (n := 1422) (by decide +kernel) (by decide +kernel)
theorem wd_1423 : Cond.fieldLink RX9 136 "GuestFramesModel" "methods" "I" ∈ zv_U := zv_in (n := 1423) (by decide +kernel) (by decide +kernel)
theorem wd_1424 : Cond.fieldLink RX9 52 "GuestFramesModel" "led" "[Z" ∈ zv_U := zv_in (n := 1424) (by decide +kernel) (by decide +kernel)
theorem wd_1425 : Cond.fieldLink RX9 56 "GuestFramesModel" "depths" "[I" ∈ zv_U := zv_in (n := 1425) (by decide +kernel) (by decide +kernel)
theorem wd_1426 : Cond.fieldLink RX9 59 "GuestFramesModel" "stackKinds" "[I" ∈ zv_U := zv_in (n := 1426) (by decide +kernel) (by decide +kernel)
theorem wd_1427 : Cond.fieldLink RX9 62 "GuestFramesModel" "localKinds" "[I" ∈ zv_U := zv_in (n := 1427) (by decide +kernel) (by decide +kernel)
theorem wd_1428 : Cond.fieldLink RX9 65 "GuestFramesModel" "nowStack" "[I" ∈ zv_U := zv_in (n := 1428) (by decide +kernel) (by decide +kernel)
theorem wd_1429 : Cond.fieldLink RX9 147 "GuestFramesModel" "nowDepth" "I" ∈ zv_U := zv_in (n := 1429) (by decide +kernel) (by decide +kernel)
theorem wd_1430 : Cond.fieldLink RX9 68 "GuestFramesModel" "nowLocals" "[I" ∈ zv_U := zv_in (n := 1430) (by decide +kernel) (by decide +kernel)
theorem wd_1431 : Cond.fieldLink RX9 143 "GuestFramesModel" "right" "Z" ∈ zv_U := zv_in (n := 1431) (by decide +kernel) (by decide +kernel)
theorem wd_1432 : Cond.fieldLink RX9 154 "GuestFramesModel" "moved" "Z" ∈ zv_U := zv_in (n := 1432) (by decide +kernel) (by decide +kernel)
theorem wd_1433 : Cond.fieldLink RX9 71 "GuestFramesModel" "alive" "[Z" ∈ zv_U := zv_in (n := 1433) (by decide +kernel) (by decide +kernel)
theorem wd_1434 : Cond.fieldLink RX9 74 "GuestFramesModel" "met" "[Z" ∈ zv_U := zv_in (n := 1434) (by decide +kernel) (by decide +kernel)
theorem wd_1435 : Cond.fieldLink RX9 77 "GuestFramesModel" "thingClasses" "[I" ∈ zv_U := zv_in (n := 1435) (by decide +kernel) (by decide +kernel)
theorem wd_1436 : Cond.fieldLink RX9 80 "GuestFramesModel" "sorts" "[I" ∈ zv_U := zv_in (n := 1436) (by decide +kernel) (by decide +kernel)
theorem wd_1437 : Cond.fieldLink RX9 83 "GuestFramesModel" "sizes" "[I" ∈ zv_U := zv_in (n := 1437) (by decide +kernel) (by decide +kernel)
theorem wd_1438 : Cond.fieldLink RX9 86 "GuestFramesModel" "begins" "[I" ∈ zv_U := zv_in (n := 1438) (by decide +kernel) (by decide +kernel)
theorem wd_1439 : Cond.fieldLink RX9 89 "GuestFramesModel" "order" "[I" ∈ zv_U := zv_in (n := 1439) (by decide +kernel) (by decide +kernel)
theorem wd_1440 : Cond.fieldLink RX9 228 "GuestFramesModel" "orderCount" "I" ∈ zv_U := zv_in (n := 1440) (by decide +kernel) (by decide +kernel)
theorem wd_1441 : Cond.fieldLink RX9 92 "GuestFramesModel" "cells" "[J" ∈ zv_U := zv_in (n := 1441) (by decide +kernel) (by decide +kernel)
theorem wd_1442 : Cond.fieldLink RX9 225 "GuestFramesModel" "cellEnd" "I" ∈ zv_U := zv_in (n := 1442) (by decide +kernel) (by decide +kernel)
theorem wd_1443 : Cond.fieldLink RX9 96 "GuestFramesModel" "pile" "[I" ∈ zv_U := zv_in (n := 1443) (by decide +kernel) (by decide +kernel)
theorem wd_1444 : Cond.fieldLink RX9 99 "GuestFramesModel" "frameMethods" "[I" ∈ zv_U := zv_in (n := 1444) (by decide +kernel) (by decide +kernel)
theorem wd_1445 : Cond.fieldLink RX9 102 "GuestFramesModel" "places" "[I" ∈ zv_U := zv_in (n := 1445) (by decide +kernel) (by decide +kernel)
theorem wd_1446 : Cond.fieldLink RX9 105 "GuestFramesModel" "frameDepths" "[I" ∈ zv_U := zv_in (n := 1446) (by decide +kernel) (by decide +kernel)
theorem wd_1447 : Cond.fieldLink RX9 108 "GuestFramesModel" "localValues" "[J" ∈ zv_U := zv_in (n := 1447) (by decide +kernel) (by decide +kernel)
theorem wd_1448 : Cond.fieldLink RX9 111 "GuestFramesModel" "localTags" "[I" ∈ zv_U := zv_in (n := 1448) (by decide +kernel) (by decide +kernel)
theorem wd_1449 : Cond.fieldLink RX9 114 "GuestFramesModel" "stackValues" "[J" ∈ zv_U := zv_in (n := 1449) (by decide +kernel) (by decide +kernel)
theorem wd_1450 : Cond.fieldLink RX9 117 "GuestFramesModel" "stackTags" "[I" ∈ zv_U := zv_in (n := 1450) (by decide +kernel) (by decide +kernel)
theorem wd_1451 : Cond.fieldLink RX9 214 "GuestFramesModel" "frames" "I" ∈ zv_U := zv_in (n := 1451) (by decide +kernel) (by decide +kernel)
theorem wd_1452 : Cond.fieldLink RX9 235 "GuestFramesModel" "outcome" "I" ∈ zv_U := zv_in (n := 1452) (by decide +kernel) (by decide +kernel)
theorem wd_1453 : Cond.fieldLink RX9 238 "GuestFramesModel" "ended" "Z" ∈ zv_U := zv_in (n := 1453) (by decide +kernel) (by decide +kernel)
theorem wd_1454 : Cond.fieldLink RX9 256 "GuestFramesModel" "result" "J" ∈ zv_U := zv_in (n := 1454) (by decide +kernel) (by decide +kernel)
theorem wd_1455 : Cond.fieldLink RX9 253 "GuestFramesModel" "steps" "I" ∈ zv_U := zv_in (n := 1455) (by decide +kernel) (by decide +kernel)
theorem wd_1456 : Cond.fieldLink RX9 241 "GuestFramesModel" "lastWords" "I" ∈ zv_U := zv_in (n := 1456) (by decide +kernel) (by decide +kernel)
theorem wd_1457 : Cond.fieldLink RX9 244 "GuestFramesModel" "mostWords" "I" ∈ zv_U := zv_in (n := 1457) (by decide +kernel) (by decide +kernel)
theorem wd_1458 : Cond.fieldLink RX9 311 "GuestFramesModel" "raised" "Z" ∈ zv_U := zv_in (n := 1458) (by decide +kernel) (by decide +kernel)
theorem wd_1590 : Cond.methodLink RX9 139 yX9_isGood ∈ zv_U := zv_in (n := 1590) (by decide +kernel) (by decide +kernel)
theorem wd_1592 : Cond.instanceMethod yX9_isGood ∈ zv_U := zv_in (n := 1592) (by decide +kernel) (by decide +kernel)
theorem wd_1593 : Cond.code yX9_isGood cX9_isGood 3 ((some .boolean)) ∈ zv_U := zv_in (n := 1593) (by decide +kernel) (by decide +kernel)
theorem wd_1594 : Cond.methodLink RX9 150 yX9_lead ∈ zv_U := zv_in (n := 1594) (by decide +kernel) (by decide +kernel)
theorem wd_1596 : Cond.instanceMethod yX9_lead ∈ zv_U := zv_in (n := 1596) (by decide +kernel) (by decide +kernel)
theorem wd_1597 : Cond.code yX9_lead cX9_lead 5 (none) ∈ zv_U := zv_in (n := 1597) (by decide +kernel) (by decide +kernel)
theorem wd_1598 : Cond.methodLink RX9 157 yX9_judge ∈ zv_U := zv_in (n := 1598) (by decide +kernel) (by decide +kernel)
theorem wd_1600 : Cond.instanceMethod yX9_judge ∈ zv_U := zv_in (n := 1600) (by decide +kernel) (by decide +kernel)
theorem wd_1601 : Cond.code yX9_judge cX9_judge 9 (none) ∈ zv_U := zv_in (n := 1601) (by decide +kernel) (by decide +kernel)
theorem wd_1602 : Cond.methodLink RX9 168 yX9_take ∈ zv_U := zv_in (n := 1602) (by decide +kernel) (by decide +kernel)
theorem wd_1604 : Cond.instanceMethod yX9_take ∈ zv_U := zv_in (n := 1604) (by decide +kernel) (by decide +kernel)
theorem wd_1605 : Cond.code yX9_take cX9_take 3 (none) ∈ zv_U := zv_in (n := 1605) (by decide +kernel) (by decide +kernel)
theorem wd_1606 : Cond.methodLink RX9 172 yX9_push ∈ zv_U := zv_in (n := 1606) (by decide +kernel) (by decide +kernel)
theorem wd_1608 : Cond.instanceMethod yX9_push ∈ zv_U := zv_in (n := 1608) (by decide +kernel) (by decide +kernel)
theorem wd_1609 : Cond.code yX9_push cX9_push 3 (none) ∈ zv_U := zv_in (n := 1609) (by decide +kernel) (by decide +kernel)
theorem wd_1610 : Cond.methodLink RX9 160 yX9_code ∈ zv_U := zv_in (n := 1610) (by decide +kernel) (by decide +kernel)
theorem wd_1612 : Cond.instanceMethod yX9_code ∈ zv_U := zv_in (n := 1612) (by decide +kernel) (by decide +kernel)
theorem wd_1613 : Cond.code yX9_code cX9_code 3 ((some .int)) ∈ zv_U := zv_in (n := 1613) (by decide +kernel) (by decide +kernel)
theorem wd_1614 : Cond.methodLink RX9 175 yX9_length ∈ zv_U := zv_in (n := 1614) (by decide +kernel) (by decide +kernel)
theorem wd_1615 : Cond.static yX9_length ∈ zv_U := zv_in (n := 1615) (by decide +kernel) (by decide +kernel)
theorem wd_1616 : Cond.code yX9_length cX9_length 4 ((some .int)) ∈ zv_U := zv_in (n := 1616) (by decide +kernel) (by decide +kernel)
theorem wd_1617 : Cond.methodLink RX9 178 yX9_judgeLoad ∈ zv_U := zv_in (n := 1617) (by decide +kernel) (by decide +kernel)
theorem wd_1619 : Cond.instanceMethod yX9_judgeLoad ∈ zv_U := zv_in (n := 1619) (by decide +kernel) (by decide +kernel)
theorem wd_1620 : Cond.code yX9_judgeLoad cX9_judgeLoad 5 (none) ∈ zv_U := zv_in (n := 1620) (by decide +kernel) (by decide +kernel)
theorem wd_1621 : Cond.methodLink RX9 182 yX9_pop ∈ zv_U := zv_in (n := 1621) (by decide +kernel) (by decide +kernel)
theorem wd_1623 : Cond.instanceMethod yX9_pop ∈ zv_U := zv_in (n := 1623) (by decide +kernel) (by decide +kernel)
theorem wd_1624 : Cond.code yX9_pop cX9_pop 2 (none) ∈ zv_U := zv_in (n := 1624) (by decide +kernel) (by decide +kernel)
theorem wd_1625 : Cond.methodLink RX9 185 yX9_arrayKind ∈ zv_U := zv_in (n := 1625) (by decide +kernel) (by decide +kernel)
theorem wd_1626 : Cond.static yX9_arrayKind ∈ zv_U := zv_in (n := 1626) (by decide +kernel) (by decide +kernel)
theorem wd_1627 : Cond.code yX9_arrayKind cX9_arrayKind 2 ((some .int)) ∈ zv_U := zv_in (n := 1627) (by decide +kernel) (by decide +kernel)
theorem wd_1628 : Cond.methodLink RX9 188 yX9_judgeStack ∈ zv_U := zv_in (n := 1628) (by decide +kernel) (by decide +kernel)
theorem wd_1630 : Cond.instanceMethod yX9_judgeStack ∈ zv_U := zv_in (n := 1630) (by decide +kernel) (by decide +kernel)
theorem wd_1631 : Cond.code yX9_judgeStack cX9_judgeStack 5 (none) ∈ zv_U := zv_in (n := 1631) (by decide +kernel) (by decide +kernel)
theorem wd_1632 : Cond.methodLink RX9 204 yX9_popEither ∈ zv_U := zv_in (n := 1632) (by decide +kernel) (by decide +kernel)
theorem wd_1634 : Cond.instanceMethod yX9_popEither ∈ zv_U := zv_in (n := 1634) (by decide +kernel) (by decide +kernel)
theorem wd_1635 : Cond.code yX9_popEither cX9_popEither 1 ((some .int)) ∈ zv_U := zv_in (n := 1635) (by decide +kernel) (by decide +kernel)
theorem wd_1636 : Cond.methodLink RX9 191 yX9_judgeReckoning ∈ zv_U := zv_in (n := 1636) (by decide +kernel) (by decide +kernel)
theorem wd_1638 : Cond.instanceMethod yX9_judgeReckoning ∈ zv_U := zv_in (n := 1638) (by decide +kernel) (by decide +kernel)
theorem wd_1639 : Cond.code yX9_judgeReckoning cX9_judgeReckoning 6 (none) ∈ zv_U := zv_in (n := 1639) (by decide +kernel) (by decide +kernel)
theorem wd_1640 : Cond.methodLink RX9 194 yX9_judgeBranch ∈ zv_U := zv_in (n := 1640) (by decide +kernel) (by decide +kernel)
theorem wd_1642 : Cond.instanceMethod yX9_judgeBranch ∈ zv_U := zv_in (n := 1642) (by decide +kernel) (by decide +kernel)
theorem wd_1643 : Cond.code yX9_judgeBranch cX9_judgeBranch 2 (none) ∈ zv_U := zv_in (n := 1643) (by decide +kernel) (by decide +kernel)
theorem wd_1644 : Cond.methodLink RX9 197 yX9_to ∈ zv_U := zv_in (n := 1644) (by decide +kernel) (by decide +kernel)
theorem wd_1646 : Cond.instanceMethod yX9_to ∈ zv_U := zv_in (n := 1646) (by decide +kernel) (by decide +kernel)
theorem wd_1647 : Cond.code yX9_to cX9_to 3 ((some .int)) ∈ zv_U := zv_in (n := 1647) (by decide +kernel) (by decide +kernel)
theorem wd_1648 : Cond.methodLink RX9 164 yX9_signed ∈ zv_U := zv_in (n := 1648) (by decide +kernel) (by decide +kernel)
theorem wd_1649 : Cond.static yX9_signed ∈ zv_U := zv_in (n := 1649) (by decide +kernel) (by decide +kernel)
theorem wd_1650 : Cond.code yX9_signed cX9_signed 1 ((some .int)) ∈ zv_U := zv_in (n := 1650) (by decide +kernel) (by decide +kernel)
theorem wd_1651 : Cond.methodLink RX9 200 yX9_judgeThing ∈ zv_U := zv_in (n := 1651) (by decide +kernel) (by decide +kernel)
theorem wd_1653 : Cond.instanceMethod yX9_judgeThing ∈ zv_U := zv_in (n := 1653) (by decide +kernel) (by decide +kernel)
theorem wd_1654 : Cond.code yX9_judgeThing cX9_judgeThing 6 (none) ∈ zv_U := zv_in (n := 1654) (by decide +kernel) (by decide +kernel)
theorem wd_1659 : Cond.methodLink RX9 250 yX9_open ∈ zv_U := zv_in (n := 1659) (by decide +kernel) (by decide +kernel)
theorem wd_1661 : Cond.instanceMethod yX9_open ∈ zv_U := zv_in (n := 1661) (by decide +kernel) (by decide +kernel)
theorem wd_1662 : Cond.code yX9_open cX9_open 3 (none) ∈ zv_U := zv_in (n := 1662) (by decide +kernel) (by decide +kernel)
theorem wd_1663 : Cond.methodLink RX9 260 yX9_step ∈ zv_U := zv_in (n := 1663) (by decide +kernel) (by decide +kernel)
theorem wd_1665 : Cond.instanceMethod yX9_step ∈ zv_U := zv_in (n := 1665) (by decide +kernel) (by decide +kernel)
theorem wd_1666 : Cond.code yX9_step cX9_step 8 (none) ∈ zv_U := zv_in (n := 1666) (by decide +kernel) (by decide +kernel)
theorem wd_1667 : Cond.methodLink RX9 278 yX9_doLoad ∈ zv_U := zv_in (n := 1667) (by decide +kernel) (by decide +kernel)
theorem wd_1669 : Cond.instanceMethod yX9_doLoad ∈ zv_U := zv_in (n := 1669) (by decide +kernel) (by decide +kernel)
theorem wd_1670 : Cond.code yX9_doLoad cX9_doLoad 5 (none) ∈ zv_U := zv_in (n := 1670) (by decide +kernel) (by decide +kernel)
theorem wd_1671 : Cond.methodLink RX9 274 yX9_pushValue ∈ zv_U := zv_in (n := 1671) (by decide +kernel) (by decide +kernel)
theorem wd_1673 : Cond.instanceMethod yX9_pushValue ∈ zv_U := zv_in (n := 1673) (by decide +kernel) (by decide +kernel)
theorem wd_1674 : Cond.code yX9_pushValue cX9_pushValue 6 (none) ∈ zv_U := zv_in (n := 1674) (by decide +kernel) (by decide +kernel)
theorem wd_1675 : Cond.methodLink RX9 281 yX9_doFetch ∈ zv_U := zv_in (n := 1675) (by decide +kernel) (by decide +kernel)
theorem wd_1677 : Cond.instanceMethod yX9_doFetch ∈ zv_U := zv_in (n := 1677) (by decide +kernel) (by decide +kernel)
theorem wd_1678 : Cond.code yX9_doFetch cX9_doFetch 7 (none) ∈ zv_U := zv_in (n := 1678) (by decide +kernel) (by decide +kernel)
theorem wd_1679 : Cond.methodLink RX9 320 yX9_peek ∈ zv_U := zv_in (n := 1679) (by decide +kernel) (by decide +kernel)
theorem wd_1681 : Cond.instanceMethod yX9_peek ∈ zv_U := zv_in (n := 1681) (by decide +kernel) (by decide +kernel)
theorem wd_1682 : Cond.code yX9_peek cX9_peek 3 ((some .long)) ∈ zv_U := zv_in (n := 1682) (by decide +kernel) (by decide +kernel)
theorem wd_1683 : Cond.methodLink RX9 324 yX9_wrong ∈ zv_U := zv_in (n := 1683) (by decide +kernel) (by decide +kernel)
theorem wd_1685 : Cond.instanceMethod yX9_wrong ∈ zv_U := zv_in (n := 1685) (by decide +kernel) (by decide +kernel)
theorem wd_1686 : Cond.code yX9_wrong cX9_wrong 7 ((some .int)) ∈ zv_U := zv_in (n := 1686) (by decide +kernel) (by decide +kernel)
theorem wd_1687 : Cond.methodLink RX9 317 yX9_isSort ∈ zv_U := zv_in (n := 1687) (by decide +kernel) (by decide +kernel)
theorem wd_1688 : Cond.static yX9_isSort ∈ zv_U := zv_in (n := 1688) (by decide +kernel) (by decide +kernel)
theorem wd_1689 : Cond.code yX9_isSort cX9_isSort 3 ((some .boolean)) ∈ zv_U := zv_in (n := 1689) (by decide +kernel) (by decide +kernel)
theorem wd_1690 : Cond.methodLink RX9 328 yX9_fail ∈ zv_U := zv_in (n := 1690) (by decide +kernel) (by decide +kernel)
theorem wd_1692 : Cond.instanceMethod yX9_fail ∈ zv_U := zv_in (n := 1692) (by decide +kernel) (by decide +kernel)
theorem wd_1693 : Cond.code yX9_fail cX9_fail 2 (none) ∈ zv_U := zv_in (n := 1693) (by decide +kernel) (by decide +kernel)
theorem wd_1694 : Cond.methodLink RX9 314 yX9_raise ∈ zv_U := zv_in (n := 1694) (by decide +kernel) (by decide +kernel)
theorem wd_1696 : Cond.instanceMethod yX9_raise ∈ zv_U := zv_in (n := 1696) (by decide +kernel) (by decide +kernel)
theorem wd_1697 : Cond.code yX9_raise cX9_raise 4 (none) ∈ zv_U := zv_in (n := 1697) (by decide +kernel) (by decide +kernel)
theorem wd_1698 : Cond.methodLink RX9 263 yX9_make ∈ zv_U := zv_in (n := 1698) (by decide +kernel) (by decide +kernel)
theorem wd_1700 : Cond.instanceMethod yX9_make ∈ zv_U := zv_in (n := 1700) (by decide +kernel) (by decide +kernel)
theorem wd_1701 : Cond.code yX9_make cX9_make 8 ((some .long)) ∈ zv_U := zv_in (n := 1701) (by decide +kernel) (by decide +kernel)
theorem wd_1702 : Cond.methodLink RX9 231 yX9_reach ∈ zv_U := zv_in (n := 1702) (by decide +kernel) (by decide +kernel)
theorem wd_1704 : Cond.instanceMethod yX9_reach ∈ zv_U := zv_in (n := 1704) (by decide +kernel) (by decide +kernel)
theorem wd_1705 : Cond.code yX9_reach cX9_reach 7 ((some .long)) ∈ zv_U := zv_in (n := 1705) (by decide +kernel) (by decide +kernel)
theorem wd_1706 : Cond.methodLink RX9 217 yX9_meet ∈ zv_U := zv_in (n := 1706) (by decide +kernel) (by decide +kernel)
theorem wd_1708 : Cond.instanceMethod yX9_meet ∈ zv_U := zv_in (n := 1708) (by decide +kernel) (by decide +kernel)
theorem wd_1709 : Cond.code yX9_meet cX9_meet 5 ((some .int)) ∈ zv_U := zv_in (n := 1709) (by decide +kernel) (by decide +kernel)
theorem wd_1710 : Cond.methodLink RX9 221 yX9_wordsOf ∈ zv_U := zv_in (n := 1710) (by decide +kernel) (by decide +kernel)
theorem wd_1711 : Cond.static yX9_wordsOf ∈ zv_U := zv_in (n := 1711) (by decide +kernel) (by decide +kernel)
theorem wd_1712 : Cond.code yX9_wordsOf cX9_wordsOf 3 ((some .long)) ∈ zv_U := zv_in (n := 1712) (by decide +kernel) (by decide +kernel)
theorem wd_1713 : Cond.constantLong RX9 208 (2) ∈ zv_U := zv_in (n := 1713) (by decide +kernel) (by decide +kernel)
theorem wd_1714 : Cond.constantLong RX9 210 (3) ∈ zv_U := zv_in (n := 1714) (by decide +kernel) (by decide +kernel)
theorem wd_1715 : Cond.constantLong RX9 212 (4) ∈ zv_U := zv_in (n := 1715) (by decide +kernel) (by decide +kernel)
theorem wd_1716 : Cond.methodLink RX9 247 yX9_sweep ∈ zv_U := zv_in (n := 1716) (by decide +kernel) (by decide +kernel)
theorem wd_1718 : Cond.instanceMethod yX9_sweep ∈ zv_U := zv_in (n := 1718) (by decide +kernel) (by decide +kernel)
theorem wd_1719 : Cond.code yX9_sweep cX9_sweep 5 (none) ∈ zv_U := zv_in (n := 1719) (by decide +kernel) (by decide +kernel)
theorem wd_1720 : Cond.methodLink RX9 267 yX9_hurl ∈ zv_U := zv_in (n := 1720) (by decide +kernel) (by decide +kernel)
theorem wd_1722 : Cond.instanceMethod yX9_hurl ∈ zv_U := zv_in (n := 1722) (by decide +kernel) (by decide +kernel)
theorem wd_1723 : Cond.code yX9_hurl cX9_hurl 6 (none) ∈ zv_U := zv_in (n := 1723) (by decide +kernel) (by decide +kernel)
theorem wd_1724 : Cond.methodLink RX9 270 yX9_isOf ∈ zv_U := zv_in (n := 1724) (by decide +kernel) (by decide +kernel)
theorem wd_1726 : Cond.instanceMethod yX9_isOf ∈ zv_U := zv_in (n := 1726) (by decide +kernel) (by decide +kernel)
theorem wd_1727 : Cond.code yX9_isOf cX9_isOf 4 ((some .boolean)) ∈ zv_U := zv_in (n := 1727) (by decide +kernel) (by decide +kernel)
theorem wd_1728 : Cond.methodLink RX9 284 yX9_popValue ∈ zv_U := zv_in (n := 1728) (by decide +kernel) (by decide +kernel)
theorem wd_1730 : Cond.instanceMethod yX9_popValue ∈ zv_U := zv_in (n := 1730) (by decide +kernel) (by decide +kernel)
theorem wd_1731 : Cond.code yX9_popValue cX9_popValue 2 ((some .long)) ∈ zv_U := zv_in (n := 1731) (by decide +kernel) (by decide +kernel)
theorem wd_1732 : Cond.methodLink RX9 287 yX9_doStore ∈ zv_U := zv_in (n := 1732) (by decide +kernel) (by decide +kernel)
theorem wd_1734 : Cond.instanceMethod yX9_doStore ∈ zv_U := zv_in (n := 1734) (by decide +kernel) (by decide +kernel)
theorem wd_1735 : Cond.code yX9_doStore cX9_doStore 11 (none) ∈ zv_U := zv_in (n := 1735) (by decide +kernel) (by decide +kernel)
theorem wd_1736 : Cond.methodLink RX9 290 yX9_doStack ∈ zv_U := zv_in (n := 1736) (by decide +kernel) (by decide +kernel)
theorem wd_1738 : Cond.instanceMethod yX9_doStack ∈ zv_U := zv_in (n := 1738) (by decide +kernel) (by decide +kernel)
theorem wd_1739 : Cond.code yX9_doStack cX9_doStack 7 (none) ∈ zv_U := zv_in (n := 1739) (by decide +kernel) (by decide +kernel)
theorem wd_1740 : Cond.methodLink RX9 293 yX9_doReckoning ∈ zv_U := zv_in (n := 1740) (by decide +kernel) (by decide +kernel)
theorem wd_1742 : Cond.instanceMethod yX9_doReckoning ∈ zv_U := zv_in (n := 1742) (by decide +kernel) (by decide +kernel)
theorem wd_1743 : Cond.code yX9_doReckoning cX9_doReckoning 10 (none) ∈ zv_U := zv_in (n := 1743) (by decide +kernel) (by decide +kernel)
theorem wd_1744 : Cond.constantLong RX9 331 (-1) ∈ zv_U := zv_in (n := 1744) (by decide +kernel) (by decide +kernel)
theorem wd_1745 : Cond.methodLink RX9 333 yX9_ofInts ∈ zv_U := zv_in (n := 1745) (by decide +kernel) (by decide +kernel)
theorem wd_1746 : Cond.static yX9_ofInts ∈ zv_U := zv_in (n := 1746) (by decide +kernel) (by decide +kernel)
theorem wd_1747 : Cond.code yX9_ofInts cX9_ofInts 3 ((some .int)) ∈ zv_U := zv_in (n := 1747) (by decide +kernel) (by decide +kernel)
theorem wd_1748 : Cond.methodLink RX9 337 yX9_ofLongs ∈ zv_U := zv_in (n := 1748) (by decide +kernel) (by decide +kernel)
theorem wd_1749 : Cond.static yX9_ofLongs ∈ zv_U := zv_in (n := 1749) (by decide +kernel) (by decide +kernel)
theorem wd_1750 : Cond.code yX9_ofLongs cX9_ofLongs 5 ((some .long)) ∈ zv_U := zv_in (n := 1750) (by decide +kernel) (by decide +kernel)
theorem wd_1751 : Cond.methodLink RX9 296 yX9_goes ∈ zv_U := zv_in (n := 1751) (by decide +kernel) (by decide +kernel)
theorem wd_1753 : Cond.instanceMethod yX9_goes ∈ zv_U := zv_in (n := 1753) (by decide +kernel) (by decide +kernel)
theorem wd_1754 : Cond.code yX9_goes cX9_goes 6 ((some .boolean)) ∈ zv_U := zv_in (n := 1754) (by decide +kernel) (by decide +kernel)
theorem wd_1755 : Cond.methodLink RX9 341 yX9_holds ∈ zv_U := zv_in (n := 1755) (by decide +kernel) (by decide +kernel)
theorem wd_1756 : Cond.static yX9_holds ∈ zv_U := zv_in (n := 1756) (by decide +kernel) (by decide +kernel)
theorem wd_1757 : Cond.code yX9_holds cX9_holds 5 ((some .boolean)) ∈ zv_U := zv_in (n := 1757) (by decide +kernel) (by decide +kernel)
theorem wd_1758 : Cond.methodLink RX9 299 yX9_doEnd ∈ zv_U := zv_in (n := 1758) (by decide +kernel) (by decide +kernel)
theorem wd_1760 : Cond.instanceMethod yX9_doEnd ∈ zv_U := zv_in (n := 1760) (by decide +kernel) (by decide +kernel)
theorem wd_1761 : Cond.code yX9_doEnd cX9_doEnd 4 (none) ∈ zv_U := zv_in (n := 1761) (by decide +kernel) (by decide +kernel)
theorem wd_1762 : Cond.methodLink RX9 302 yX9_doCall ∈ zv_U := zv_in (n := 1762) (by decide +kernel) (by decide +kernel)
theorem wd_1764 : Cond.instanceMethod yX9_doCall ∈ zv_U := zv_in (n := 1764) (by decide +kernel) (by decide +kernel)
theorem wd_1765 : Cond.code yX9_doCall cX9_doCall 3 (none) ∈ zv_U := zv_in (n := 1765) (by decide +kernel) (by decide +kernel)
theorem wd_1766 : Cond.methodLink RX9 305 yX9_doThrow ∈ zv_U := zv_in (n := 1766) (by decide +kernel) (by decide +kernel)
theorem wd_1768 : Cond.instanceMethod yX9_doThrow ∈ zv_U := zv_in (n := 1768) (by decide +kernel) (by decide +kernel)
theorem wd_1769 : Cond.code yX9_doThrow cX9_doThrow 3 (none) ∈ zv_U := zv_in (n := 1769) (by decide +kernel) (by decide +kernel)
theorem wd_1770 : Cond.methodLink RX9 308 yX9_doThing ∈ zv_U := zv_in (n := 1770) (by decide +kernel) (by decide +kernel)
theorem wd_1772 : Cond.instanceMethod yX9_doThing ∈ zv_U := zv_in (n := 1772) (by decide +kernel) (by decide +kernel)
theorem wd_1773 : Cond.code yX9_doThing cX9_doThing 9 (none) ∈ zv_U := zv_in (n := 1773) (by decide +kernel) (by decide +kernel)
theorem wd_1774 : Cond.methodLink RX9 345 yX9_noRoom ∈ zv_U := zv_in (n := 1774) (by decide +kernel) (by decide +kernel)
theorem wd_1776 : Cond.instanceMethod yX9_noRoom ∈ zv_U := zv_in (n := 1776) (by decide +kernel) (by decide +kernel)
theorem wd_1777 : Cond.code yX9_noRoom cX9_noRoom 1 ((some .long)) ∈ zv_U := zv_in (n := 1777) (by decide +kernel) (by decide +kernel)
theorem wd_1778 : Cond.methodLink RX9 348 yX9_doField ∈ zv_U := zv_in (n := 1778) (by decide +kernel) (by decide +kernel)
theorem wd_1780 : Cond.instanceMethod yX9_doField ∈ zv_U := zv_in (n := 1780) (by decide +kernel) (by decide +kernel)
theorem wd_1781 : Cond.code yX9_doField cX9_doField 11 (none) ∈ zv_U := zv_in (n := 1781) (by decide +kernel) (by decide +kernel)
theorem ck_9 : zv_ck 9 RX9 TX9 55 tyX9 := ⟨rfl, zv_inL _ [1459, 1461, 1463, 1465, 1467, 1469, 1471, 1473, 1475, 1477, 1479, 1481, 1483, 1485, 1487, 1489, 1491, 1493, 1495, 1497, 1499, 1501, 1503, 1505, 1507, 1509, 1511, 1513, 1515, 1517, 1519, 1521, 1523, 1525, 1527, 1529, 1531, 1533, 1535, 1537, 1539, 1541, 1543, 1545, 1547, 1549, 1551, 1553, 1555, 1557, 1559, 1561, 1563, 1565, 1567] (by decide +kernel) (by decide +kernel), tyX9_ok, nmX9⟩
theorem fl_1445 : zv_fl RX9 102 9 41 (.array .int) true := ⟨RX9, TX9, 55, tyX9, "GuestFramesModel", ck_9, by decide, rfl, rfl, (fun _ => rfl), wd_1445, Or.inl rfl⟩
theorem fl_1446 : zv_fl RX9 105 9 42 (.array .int) true := ⟨RX9, TX9, 55, tyX9, "GuestFramesModel", ck_9, by decide, rfl, rfl, (fun _ => rfl), wd_1446, Or.inl rfl⟩
theorem fl_1447 : zv_fl RX9 108 9 43 (.array .long) true := ⟨RX9, TX9, 55, tyX9, "GuestFramesModel", ck_9, by decide, rfl, rfl, (fun _ => rfl), wd_1447, Or.inl rfl⟩
theorem fl_1448 : zv_fl RX9 111 9 44 (.array .int) true := ⟨RX9, TX9, 55, tyX9, "GuestFramesModel", ck_9, by decide, rfl, rfl, (fun _ => rfl), wd_1448, Or.inl rfl⟩
theorem fl_1449 : zv_fl RX9 114 9 45 (.array .long) true := ⟨RX9, TX9, 55, tyX9, "GuestFramesModel", ck_9, by decide, rfl, rfl, (fun _ => rfl), wd_1449, Or.inl rfl⟩
theorem fl_1450 : zv_fl RX9 117 9 46 (.array .int) true := ⟨RX9, TX9, 55, tyX9, "GuestFramesModel", ck_9, by decide, rfl, rfl, (fun _ => rfl), wd_1450, Or.inl rfl⟩
theorem fl_1405 : zv_fl RX9 120 9 1 (.int) true := ⟨RX9, TX9, 55, tyX9, "GuestFramesModel", ck_9, by decide, rfl, rfl, (fun _ => rfl), wd_1405, Or.inl rfl⟩
theorem fl_1409 : zv_fl RX9 124 9 5 (.int) false := ⟨RX9, TX9, 55, tyX9, "GuestFramesModel", ck_9, by decide, rfl, rfl, (fun q => nomatch q), wd_1409, Or.inl rfl⟩
theorem fl_1404 : zv_fl RX9 127 9 0 (.int) false := ⟨RX9, TX9, 55, tyX9, "GuestFramesModel", ck_9, by decide, rfl, rfl, (fun q => nomatch q), wd_1404, Or.inl rfl⟩
theorem fl_1407 : zv_fl RX9 13 9 3 (.array .int) true := ⟨RX9, TX9, 55, tyX9, "GuestFramesModel", ck_9, by decide, rfl, rfl, (fun _ => rfl), wd_1407, Or.inl rfl⟩
theorem fl_1411 : zv_fl RX9 130 9 7 (.int) false := ⟨RX9, TX9, 55, tyX9, "GuestFramesModel", ck_9, by decide, rfl, rfl, (fun q => nomatch q), wd_1411, Or.inl rfl⟩
theorem fl_1413 : zv_fl RX9 133 9 9 (.int) false := ⟨RX9, TX9, 55, tyX9, "GuestFramesModel", ck_9, by decide, rfl, rfl, (fun q => nomatch q), wd_1413, Or.inl rfl⟩
theorem fl_1423 : zv_fl RX9 136 9 19 (.int) false := ⟨RX9, TX9, 55, tyX9, "GuestFramesModel", ck_9, by decide, rfl, rfl, (fun q => nomatch q), wd_1423, Or.inl rfl⟩
theorem fl_1431 : zv_fl RX9 143 9 27 (.boolean) false := ⟨RX9, TX9, 55, tyX9, "GuestFramesModel", ck_9, by decide, rfl, rfl, (fun q => nomatch q), wd_1431, Or.inl rfl⟩
theorem fl_1429 : zv_fl RX9 147 9 25 (.int) false := ⟨RX9, TX9, 55, tyX9, "GuestFramesModel", ck_9, by decide, rfl, rfl, (fun q => nomatch q), wd_1429, Or.inl rfl⟩
theorem fl_1432 : zv_fl RX9 154 9 28 (.boolean) false := ⟨RX9, TX9, 55, tyX9, "GuestFramesModel", ck_9, by decide, rfl, rfl, (fun q => nomatch q), wd_1432, Or.inl rfl⟩
theorem fl_1408 : zv_fl RX9 16 9 4 (.array .int) true := ⟨RX9, TX9, 55, tyX9, "GuestFramesModel", ck_9, by decide, rfl, rfl, (fun _ => rfl), wd_1408, Or.inl rfl⟩
theorem fl_1410 : zv_fl RX9 19 9 6 (.array .int) true := ⟨RX9, TX9, 55, tyX9, "GuestFramesModel", ck_9, by decide, rfl, rfl, (fun _ => rfl), wd_1410, Or.inl rfl⟩
theorem fl_1451 : zv_fl RX9 214 9 47 (.int) false := ⟨RX9, TX9, 55, tyX9, "GuestFramesModel", ck_9, by decide, rfl, rfl, (fun q => nomatch q), wd_1451, Or.inl rfl⟩
theorem fl_1412 : zv_fl RX9 22 9 8 (.array .int) true := ⟨RX9, TX9, 55, tyX9, "GuestFramesModel", ck_9, by decide, rfl, rfl, (fun _ => rfl), wd_1412, Or.inl rfl⟩
theorem fl_1442 : zv_fl RX9 225 9 38 (.int) false := ⟨RX9, TX9, 55, tyX9, "GuestFramesModel", ck_9, by decide, rfl, rfl, (fun q => nomatch q), wd_1442, Or.inl rfl⟩
theorem fl_1440 : zv_fl RX9 228 9 36 (.int) false := ⟨RX9, TX9, 55, tyX9, "GuestFramesModel", ck_9, by decide, rfl, rfl, (fun q => nomatch q), wd_1440, Or.inl rfl⟩
theorem fl_1452 : zv_fl RX9 235 9 48 (.int) false := ⟨RX9, TX9, 55, tyX9, "GuestFramesModel", ck_9, by decide, rfl, rfl, (fun q => nomatch q), wd_1452, Or.inl rfl⟩
theorem fl_1453 : zv_fl RX9 238 9 49 (.boolean) false := ⟨RX9, TX9, 55, tyX9, "GuestFramesModel", ck_9, by decide, rfl, rfl, (fun q => nomatch q), wd_1453, Or.inl rfl⟩
theorem fl_1456 : zv_fl RX9 241 9 52 (.int) false := ⟨RX9, TX9, 55, tyX9, "GuestFramesModel", ck_9, by decide, rfl, rfl, (fun q => nomatch q), wd_1456, Or.inl rfl⟩
theorem fl_1457 : zv_fl RX9 244 9 53 (.int) false := ⟨RX9, TX9, 55, tyX9, "GuestFramesModel", ck_9, by decide, rfl, rfl, (fun q => nomatch q), wd_1457, Or.inl rfl⟩
theorem fl_1414 : zv_fl RX9 25 9 10 (.array .int) true := ⟨RX9, TX9, 55, tyX9, "GuestFramesModel", ck_9, by decide, rfl, rfl, (fun _ => rfl), wd_1414, Or.inl rfl⟩
theorem fl_1455 : zv_fl RX9 253 9 51 (.int) false := ⟨RX9, TX9, 55, tyX9, "GuestFramesModel", ck_9, by decide, rfl, rfl, (fun q => nomatch q), wd_1455, Or.inl rfl⟩
theorem fl_1454 : zv_fl RX9 256 9 50 (.long) false := ⟨RX9, TX9, 55, tyX9, "GuestFramesModel", ck_9, by decide, rfl, rfl, (fun q => nomatch q), wd_1454, Or.inl rfl⟩
theorem fl_1415 : zv_fl RX9 28 9 11 (.array .int) true := ⟨RX9, TX9, 55, tyX9, "GuestFramesModel", ck_9, by decide, rfl, rfl, (fun _ => rfl), wd_1415, Or.inl rfl⟩
theorem fl_1416 : zv_fl RX9 31 9 12 (.array .int) true := ⟨RX9, TX9, 55, tyX9, "GuestFramesModel", ck_9, by decide, rfl, rfl, (fun _ => rfl), wd_1416, Or.inl rfl⟩
theorem fl_1458 : zv_fl RX9 311 9 54 (.boolean) false := ⟨RX9, TX9, 55, tyX9, "GuestFramesModel", ck_9, by decide, rfl, rfl, (fun q => nomatch q), wd_1458, Or.inl rfl⟩
theorem fl_1417 : zv_fl RX9 34 9 13 (.array .int) true := ⟨RX9, TX9, 55, tyX9, "GuestFramesModel", ck_9, by decide, rfl, rfl, (fun _ => rfl), wd_1417, Or.inl rfl⟩
theorem fl_1418 : zv_fl RX9 37 9 14 (.array .int) true := ⟨RX9, TX9, 55, tyX9, "GuestFramesModel", ck_9, by decide, rfl, rfl, (fun _ => rfl), wd_1418, Or.inl rfl⟩
theorem fl_1419 : zv_fl RX9 40 9 15 (.array .int) true := ⟨RX9, TX9, 55, tyX9, "GuestFramesModel", ck_9, by decide, rfl, rfl, (fun _ => rfl), wd_1419, Or.inl rfl⟩
theorem fl_1420 : zv_fl RX9 43 9 16 (.array .int) true := ⟨RX9, TX9, 55, tyX9, "GuestFramesModel", ck_9, by decide, rfl, rfl, (fun _ => rfl), wd_1420, Or.inl rfl⟩
theorem fl_1421 : zv_fl RX9 46 9 17 (.array .int) true := ⟨RX9, TX9, 55, tyX9, "GuestFramesModel", ck_9, by decide, rfl, rfl, (fun _ => rfl), wd_1421, Or.inl rfl⟩
theorem fl_1422 : zv_fl RX9 49 9 18 (.array .int) true := ⟨RX9, TX9, 55, tyX9, "GuestFramesModel", ck_9, by decide, rfl, rfl, (fun _ => rfl), wd_1422, Or.inl rfl⟩
theorem fl_1424 : zv_fl RX9 52 9 20 (.array .boolean) true := ⟨RX9, TX9, 55, tyX9, "GuestFramesModel", ck_9, by decide, rfl, rfl, (fun _ => rfl), wd_1424, Or.inl rfl⟩
theorem fl_1425 : zv_fl RX9 56 9 21 (.array .int) true := ⟨RX9, TX9, 55, tyX9, "GuestFramesModel", ck_9, by decide, rfl, rfl, (fun _ => rfl), wd_1425, Or.inl rfl⟩
theorem fl_1426 : zv_fl RX9 59 9 22 (.array .int) true := ⟨RX9, TX9, 55, tyX9, "GuestFramesModel", ck_9, by decide, rfl, rfl, (fun _ => rfl), wd_1426, Or.inl rfl⟩
theorem fl_1427 : zv_fl RX9 62 9 23 (.array .int) true := ⟨RX9, TX9, 55, tyX9, "GuestFramesModel", ck_9, by decide, rfl, rfl, (fun _ => rfl), wd_1427, Or.inl rfl⟩
theorem fl_1428 : zv_fl RX9 65 9 24 (.array .int) true := ⟨RX9, TX9, 55, tyX9, "GuestFramesModel", ck_9, by decide, rfl, rfl, (fun _ => rfl), wd_1428, Or.inl rfl⟩
theorem fl_1430 : zv_fl RX9 68 9 26 (.array .int) true := ⟨RX9, TX9, 55, tyX9, "GuestFramesModel", ck_9, by decide, rfl, rfl, (fun _ => rfl), wd_1430, Or.inl rfl⟩
theorem fl_1406 : zv_fl RX9 7 9 2 (.array .int) true := ⟨RX9, TX9, 55, tyX9, "GuestFramesModel", ck_9, by decide, rfl, rfl, (fun _ => rfl), wd_1406, Or.inl rfl⟩
theorem fl_1433 : zv_fl RX9 71 9 29 (.array .boolean) true := ⟨RX9, TX9, 55, tyX9, "GuestFramesModel", ck_9, by decide, rfl, rfl, (fun _ => rfl), wd_1433, Or.inl rfl⟩
theorem fl_1434 : zv_fl RX9 74 9 30 (.array .boolean) true := ⟨RX9, TX9, 55, tyX9, "GuestFramesModel", ck_9, by decide, rfl, rfl, (fun _ => rfl), wd_1434, Or.inl rfl⟩
theorem fl_1435 : zv_fl RX9 77 9 31 (.array .int) true := ⟨RX9, TX9, 55, tyX9, "GuestFramesModel", ck_9, by decide, rfl, rfl, (fun _ => rfl), wd_1435, Or.inl rfl⟩
theorem fl_1436 : zv_fl RX9 80 9 32 (.array .int) true := ⟨RX9, TX9, 55, tyX9, "GuestFramesModel", ck_9, by decide, rfl, rfl, (fun _ => rfl), wd_1436, Or.inl rfl⟩
theorem fl_1437 : zv_fl RX9 83 9 33 (.array .int) true := ⟨RX9, TX9, 55, tyX9, "GuestFramesModel", ck_9, by decide, rfl, rfl, (fun _ => rfl), wd_1437, Or.inl rfl⟩
theorem fl_1438 : zv_fl RX9 86 9 34 (.array .int) true := ⟨RX9, TX9, 55, tyX9, "GuestFramesModel", ck_9, by decide, rfl, rfl, (fun _ => rfl), wd_1438, Or.inl rfl⟩
theorem fl_1439 : zv_fl RX9 89 9 35 (.array .int) true := ⟨RX9, TX9, 55, tyX9, "GuestFramesModel", ck_9, by decide, rfl, rfl, (fun _ => rfl), wd_1439, Or.inl rfl⟩
theorem fl_1441 : zv_fl RX9 92 9 37 (.array .long) true := ⟨RX9, TX9, 55, tyX9, "GuestFramesModel", ck_9, by decide, rfl, rfl, (fun _ => rfl), wd_1441, Or.inl rfl⟩
theorem fl_1443 : zv_fl RX9 96 9 39 (.array .int) true := ⟨RX9, TX9, 55, tyX9, "GuestFramesModel", ck_9, by decide, rfl, rfl, (fun _ => rfl), wd_1443, Or.inl rfl⟩
theorem fl_1444 : zv_fl RX9 99 9 40 (.array .int) true := ⟨RX9, TX9, 55, tyX9, "GuestFramesModel", ck_9, by decide, rfl, rfl, (fun _ => rfl), wd_1444, Or.inl rfl⟩
theorem mw_X9_arrayKind : zv_mw yX9_arrayKind cX9_arrayKind 2 ((some .int)) 1 := ⟨wd_1627, wd_103, by decide +kernel, by decide⟩
theorem mw_X9_code : zv_mw yX9_code cX9_code 3 ((some .int)) 2 := ⟨wd_1613, wd_103, by decide +kernel, by decide⟩
theorem mw_X9_doCall : zv_mw yX9_doCall cX9_doCall 3 (none) 1 := ⟨wd_1765, wd_103, by decide +kernel, by decide⟩
theorem mw_X9_doEnd : zv_mw yX9_doEnd cX9_doEnd 4 (none) 1 := ⟨wd_1761, wd_103, by decide +kernel, by decide⟩
theorem mw_X9_doFetch : zv_mw yX9_doFetch cX9_doFetch 7 (none) 1 := ⟨wd_1678, wd_103, by decide +kernel, by decide⟩
theorem mw_X9_doField : zv_mw yX9_doField cX9_doField 11 (none) 3 := ⟨wd_1781, wd_103, by decide +kernel, by decide⟩
theorem mw_X9_doLoad : zv_mw yX9_doLoad cX9_doLoad 5 (none) 4 := ⟨wd_1670, wd_103, by decide +kernel, by decide⟩
theorem mw_X9_doReckoning : zv_mw yX9_doReckoning cX9_doReckoning 10 (none) 4 := ⟨wd_1743, wd_103, by decide +kernel, by decide⟩
theorem mw_X9_doStack : zv_mw yX9_doStack cX9_doStack 7 (none) 2 := ⟨wd_1739, wd_103, by decide +kernel, by decide⟩
theorem mw_X9_doStore : zv_mw yX9_doStore cX9_doStore 11 (none) 1 := ⟨wd_1735, wd_103, by decide +kernel, by decide⟩
theorem mw_X9_doThing : zv_mw yX9_doThing cX9_doThing 9 (none) 3 := ⟨wd_1773, wd_103, by decide +kernel, by decide⟩
theorem mw_X9_doThrow : zv_mw yX9_doThrow cX9_doThrow 3 (none) 0 := ⟨wd_1769, wd_103, by decide +kernel, by decide⟩
theorem mw_X9_fail : zv_mw yX9_fail cX9_fail 2 (none) 1 := ⟨wd_1693, wd_103, by decide +kernel, by decide⟩
theorem mw_X9_goes : zv_mw yX9_goes cX9_goes 6 ((some .boolean)) 1 := ⟨wd_1754, wd_103, by decide +kernel, by decide⟩
theorem mw_X9_holds : zv_mw yX9_holds cX9_holds 5 ((some .boolean)) 3 := ⟨wd_1757, wd_103, by decide +kernel, by decide⟩
theorem mw_X9_hurl : zv_mw yX9_hurl cX9_hurl 6 (none) 1 := ⟨wd_1723, wd_103, by decide +kernel, by decide⟩
theorem mw_X9_isGood : zv_mw yX9_isGood cX9_isGood 3 ((some .boolean)) 1 := ⟨wd_1593, wd_103, by decide +kernel, by decide⟩
theorem mw_X9_isOf : zv_mw yX9_isOf cX9_isOf 4 ((some .boolean)) 2 := ⟨wd_1727, wd_103, by decide +kernel, by decide⟩
theorem mw_X9_isSort : zv_mw yX9_isSort cX9_isSort 3 ((some .boolean)) 2 := ⟨wd_1689, wd_103, by decide +kernel, by decide⟩
theorem mw_X9_judge : zv_mw yX9_judge cX9_judge 9 (none) 2 := ⟨wd_1601, wd_103, by decide +kernel, by decide⟩
theorem mw_X9_judgeBranch : zv_mw yX9_judgeBranch cX9_judgeBranch 2 (none) 1 := ⟨wd_1643, wd_103, by decide +kernel, by decide⟩
theorem mw_X9_judgeLoad : zv_mw yX9_judgeLoad cX9_judgeLoad 5 (none) 3 := ⟨wd_1620, wd_103, by decide +kernel, by decide⟩
theorem mw_X9_judgeReckoning : zv_mw yX9_judgeReckoning cX9_judgeReckoning 6 (none) 3 := ⟨wd_1639, wd_103, by decide +kernel, by decide⟩
theorem mw_X9_judgeStack : zv_mw yX9_judgeStack cX9_judgeStack 5 (none) 2 := ⟨wd_1631, wd_103, by decide +kernel, by decide⟩
theorem mw_X9_judgeThing : zv_mw yX9_judgeThing cX9_judgeThing 6 (none) 4 := ⟨wd_1654, wd_103, by decide +kernel, by decide⟩
theorem mw_X9_lead : zv_mw yX9_lead cX9_lead 5 (none) 2 := ⟨wd_1597, wd_103, by decide +kernel, by decide⟩
theorem mw_X9_length : zv_mw yX9_length cX9_length 4 ((some .int)) 1 := ⟨wd_1616, wd_103, by decide +kernel, by decide⟩
theorem mw_X9_make : zv_mw yX9_make cX9_make 8 ((some .long)) 3 := ⟨wd_1701, wd_103, by decide +kernel, by decide⟩
theorem mw_X9_meet : zv_mw yX9_meet cX9_meet 5 ((some .int)) 2 := ⟨wd_1709, wd_103, by decide +kernel, by decide⟩
theorem mw_X9_noRoom : zv_mw yX9_noRoom cX9_noRoom 1 ((some .long)) 0 := ⟨wd_1777, wd_103, by decide +kernel, by decide⟩
theorem mw_X9_ofInts : zv_mw yX9_ofInts cX9_ofInts 3 ((some .int)) 3 := ⟨wd_1747, wd_103, by decide +kernel, by decide⟩
theorem mw_X9_ofLongs : zv_mw yX9_ofLongs cX9_ofLongs 5 ((some .long)) 3 := ⟨wd_1750, wd_103, by decide +kernel, by decide⟩
theorem mw_X9_open : zv_mw yX9_open cX9_open 3 (none) 1 := ⟨wd_1662, wd_103, by decide +kernel, by decide⟩
theorem mw_X9_peek : zv_mw yX9_peek cX9_peek 3 ((some .long)) 1 := ⟨wd_1682, wd_103, by decide +kernel, by decide⟩
theorem mw_X9_pop : zv_mw yX9_pop cX9_pop 2 (none) 1 := ⟨wd_1624, wd_103, by decide +kernel, by decide⟩
theorem mw_X9_popEither : zv_mw yX9_popEither cX9_popEither 1 ((some .int)) 0 := ⟨wd_1635, wd_103, by decide +kernel, by decide⟩
theorem mw_X9_popValue : zv_mw yX9_popValue cX9_popValue 2 ((some .long)) 0 := ⟨wd_1731, wd_103, by decide +kernel, by decide⟩
theorem mw_X9_push : zv_mw yX9_push cX9_push 3 (none) 2 := ⟨wd_1609, wd_103, by decide +kernel, by decide⟩
theorem mw_X9_pushValue : zv_mw yX9_pushValue cX9_pushValue 6 (none) 2 := ⟨wd_1674, wd_103, by decide +kernel, by decide⟩
theorem mw_X9_raise : zv_mw yX9_raise cX9_raise 4 (none) 1 := ⟨wd_1697, wd_103, by decide +kernel, by decide⟩
theorem mw_X9_reach : zv_mw yX9_reach cX9_reach 7 ((some .long)) 0 := ⟨wd_1705, wd_103, by decide +kernel, by decide⟩
theorem mw_X9_signed : zv_mw yX9_signed cX9_signed 1 ((some .int)) 1 := ⟨wd_1650, wd_103, by decide +kernel, by decide⟩
theorem mw_X9_step : zv_mw yX9_step cX9_step 8 (none) 0 := ⟨wd_1666, wd_103, by decide +kernel, by decide⟩
theorem mw_X9_sweep : zv_mw yX9_sweep cX9_sweep 5 (none) 0 := ⟨wd_1719, wd_103, by decide +kernel, by decide⟩
theorem mw_X9_take : zv_mw yX9_take cX9_take 3 (none) 1 := ⟨wd_1605, wd_103, by decide +kernel, by decide⟩
theorem mw_X9_to : zv_mw yX9_to cX9_to 3 ((some .int)) 2 := ⟨wd_1647, wd_103, by decide +kernel, by decide⟩
theorem mw_X9_wordsOf : zv_mw yX9_wordsOf cX9_wordsOf 3 ((some .long)) 2 := ⟨wd_1712, wd_103, by decide +kernel, by decide⟩
theorem mw_X9_wrong : zv_mw yX9_wrong cX9_wrong 7 ((some .int)) 3 := ⟨wd_1686, wd_103, by decide +kernel, by decide⟩
