theorem ck_9 : zv_ck 9 RX9 TX9 55 tyX9 := ⟨rfl, zv_inL _ [1458, 1460, 1462, 1464, 1466, 1468, 1470, 1472, 1474, 1476, 1478, 1480, 1482, 1484, 1486, 1488, 1490, 1492, 1494, 1496, 1498, 1500, 1502, 1504, 1506, 1508, 1510, 1512, 1514, 1516, 1518, 1520, 1522, 1524, 1526, 1528, 1530, 1532, 1534, 1536, 1538, 1540, 1542, 1544, 1546, 1548, 1550, 1552, 1554, 1556, 1558, 1560, 1562, 1564, 1566] (by decide +kernel) (by decide +kernel), tyX9_ok, nmX9⟩
theorem fl_1444 : zv_fl RX9 102 9 41 (.array .int) true := ⟨RX9, TX9, 55, tyX9, "GuestFramesModel", ck_9, by decide, rfl, rfl, (fun _ => rfl), wd_1444, Or.inl rfl⟩
theorem fl_1445 : zv_fl RX9 105 9 42 (.array .int) true := ⟨RX9, TX9, 55, tyX9, "GuestFramesModel", ck_9, by decide, rfl, rfl, (fun _ => rfl), wd_1445, Or.inl rfl⟩
theorem fl_1446 : zv_fl RX9 108 9 43 (.array .long) true := ⟨RX9, TX9, 55, tyX9, "GuestFramesModel", ck_9, by decide, rfl, rfl, (fun _ => rfl), wd_1446, Or.inl rfl⟩
theorem fl_1447 : zv_fl RX9 111 9 44 (.array .int) true := ⟨RX9, TX9, 55, tyX9, "GuestFramesModel", ck_9, by decide, rfl, rfl, (fun _ => rfl), wd_1447, Or.inl rfl⟩
theorem fl_1448 : zv_fl RX9 114 9 45 (.array .long) true := ⟨RX9, TX9, 55, tyX9, "GuestFramesModel", ck_9, by decide, rfl, rfl, (fun _ => rfl), wd_1448, Or.inl rfl⟩
theorem fl_1449 : zv_fl RX9 117 9 46 (.array .int) true := ⟨RX9, TX9, 55, tyX9, "GuestFramesModel", ck_9, by decide, rfl, rfl, (fun _ => rfl), wd_1449, Or.inl rfl⟩
theorem fl_1404 : zv_fl RX9 120 9 1 (.int) true := ⟨RX9, TX9, 55, tyX9, "GuestFramesModel", ck_9, by decide, rfl, rfl, (fun _ => rfl), wd_1404, Or.inl rfl⟩
theorem fl_1408 : zv_fl RX9 124 9 5 (.int) false := ⟨RX9, TX9, 55, tyX9, "GuestFramesModel", ck_9, by decide, rfl, rfl, (fun q => nomatch q), wd_1408, Or.inl rfl⟩
theorem fl_1403 : zv_fl RX9 127 9 0 (.int) false := ⟨RX9, TX9, 55, tyX9, "GuestFramesModel", ck_9, by decide, rfl, rfl, (fun q => nomatch q), wd_1403, Or.inl rfl⟩
theorem fl_1406 : zv_fl RX9 13 9 3 (.array .int) true := ⟨RX9, TX9, 55, tyX9, "GuestFramesModel", ck_9, by decide, rfl, rfl, (fun _ => rfl), wd_1406, Or.inl rfl⟩
theorem fl_1410 : zv_fl RX9 130 9 7 (.int) false := ⟨RX9, TX9, 55, tyX9, "GuestFramesModel", ck_9, by decide, rfl, rfl, (fun q => nomatch q), wd_1410, Or.inl rfl⟩
theorem fl_1412 : zv_fl RX9 133 9 9 (.int) false := ⟨RX9, TX9, 55, tyX9, "GuestFramesModel", ck_9, by decide, rfl, rfl, (fun q => nomatch q), wd_1412, Or.inl rfl⟩
theorem fl_1422 : zv_fl RX9 136 9 19 (.int) false := ⟨RX9, TX9, 55, tyX9, "GuestFramesModel", ck_9, by decide, rfl, rfl, (fun q => nomatch q), wd_1422, Or.inl rfl⟩
theorem fl_1430 : zv_fl RX9 143 9 27 (.boolean) false := ⟨RX9, TX9, 55, tyX9, "GuestFramesModel", ck_9, by decide, rfl, rfl, (fun q => nomatch q), wd_1430, Or.inl rfl⟩
theorem fl_1428 : zv_fl RX9 147 9 25 (.int) false := ⟨RX9, TX9, 55, tyX9, "GuestFramesModel", ck_9, by decide, rfl, rfl, (fun q => nomatch q), wd_1428, Or.inl rfl⟩
theorem fl_1431 : zv_fl RX9 154 9 28 (.boolean) false := ⟨RX9, TX9, 55, tyX9, "GuestFramesModel", ck_9, by decide, rfl, rfl, (fun q => nomatch q), wd_1431, Or.inl rfl⟩
theorem fl_1407 : zv_fl RX9 16 9 4 (.array .int) true := ⟨RX9, TX9, 55, tyX9, "GuestFramesModel", ck_9, by decide, rfl, rfl, (fun _ => rfl), wd_1407, Or.inl rfl⟩
theorem fl_1409 : zv_fl RX9 19 9 6 (.array .int) true := ⟨RX9, TX9, 55, tyX9, "GuestFramesModel", ck_9, by decide, rfl, rfl, (fun _ => rfl), wd_1409, Or.inl rfl⟩
theorem fl_1450 : zv_fl RX9 214 9 47 (.int) false := ⟨RX9, TX9, 55, tyX9, "GuestFramesModel", ck_9, by decide, rfl, rfl, (fun q => nomatch q), wd_1450, Or.inl rfl⟩
theorem fl_1411 : zv_fl RX9 22 9 8 (.array .int) true := ⟨RX9, TX9, 55, tyX9, "GuestFramesModel", ck_9, by decide, rfl, rfl, (fun _ => rfl), wd_1411, Or.inl rfl⟩
theorem fl_1441 : zv_fl RX9 225 9 38 (.int) false := ⟨RX9, TX9, 55, tyX9, "GuestFramesModel", ck_9, by decide, rfl, rfl, (fun q => nomatch q), wd_1441, Or.inl rfl⟩
theorem fl_1439 : zv_fl RX9 228 9 36 (.int) false := ⟨RX9, TX9, 55, tyX9, "GuestFramesModel", ck_9, by decide, rfl, rfl, (fun q => nomatch q), wd_1439, Or.inl rfl⟩
theorem fl_1451 : zv_fl RX9 235 9 48 (.int) false := ⟨RX9, TX9, 55, tyX9, "GuestFramesModel", ck_9, by decide, rfl, rfl, (fun q => nomatch q), wd_1451, Or.inl rfl⟩
theorem fl_1452 : zv_fl RX9 238 9 49 (.boolean) false := ⟨RX9, TX9, 55, tyX9, "GuestFramesModel", ck_9, by decide, rfl, rfl, (fun q => nomatch q), wd_1452, Or.inl rfl⟩
theorem fl_1455 : zv_fl RX9 241 9 52 (.int) false := ⟨RX9, TX9, 55, tyX9, "GuestFramesModel", ck_9, by decide, rfl, rfl, (fun q => nomatch q), wd_1455, Or.inl rfl⟩
theorem fl_1456 : zv_fl RX9 244 9 53 (.int) false := ⟨RX9, TX9, 55, tyX9, "GuestFramesModel", ck_9, by decide, rfl, rfl, (fun q => nomatch q), wd_1456, Or.inl rfl⟩
theorem fl_1413 : zv_fl RX9 25 9 10 (.array .int) true := ⟨RX9, TX9, 55, tyX9, "GuestFramesModel", ck_9, by decide, rfl, rfl, (fun _ => rfl), wd_1413, Or.inl rfl⟩
theorem fl_1454 : zv_fl RX9 253 9 51 (.int) false := ⟨RX9, TX9, 55, tyX9, "GuestFramesModel", ck_9, by decide, rfl, rfl, (fun q => nomatch q), wd_1454, Or.inl rfl⟩
theorem fl_1453 : zv_fl RX9 256 9 50 (.long) false := ⟨RX9, TX9, 55, tyX9, "GuestFramesModel", ck_9, by decide, rfl, rfl, (fun q => nomatch q), wd_1453, Or.inl rfl⟩
theorem fl_1414 : zv_fl RX9 28 9 11 (.array .int) true := ⟨RX9, TX9, 55, tyX9, "GuestFramesModel", ck_9, by decide, rfl, rfl, (fun _ => rfl), wd_1414, Or.inl rfl⟩
theorem fl_1415 : zv_fl RX9 31 9 12 (.array .int) true := ⟨RX9, TX9, 55, tyX9, "GuestFramesModel", ck_9, by decide, rfl, rfl, (fun _ => rfl), wd_1415, Or.inl rfl⟩
theorem fl_1457 : zv_fl RX9 311 9 54 (.boolean) false := ⟨RX9, TX9, 55, tyX9, "GuestFramesModel", ck_9, by decide, rfl, rfl, (fun q => nomatch q), wd_1457, Or.inl rfl⟩
theorem fl_1416 : zv_fl RX9 34 9 13 (.array .int) true := ⟨RX9, TX9, 55, tyX9, "GuestFramesModel", ck_9, by decide, rfl, rfl, (fun _ => rfl), wd_1416, Or.inl rfl⟩
theorem fl_1417 : zv_fl RX9 37 9 14 (.array .int) true := ⟨RX9, TX9, 55, tyX9, "GuestFramesModel", ck_9, by decide, rfl, rfl, (fun _ => rfl), wd_1417, Or.inl rfl⟩
theorem fl_1418 : zv_fl RX9 40 9 15 (.array .int) true := ⟨RX9, TX9, 55, tyX9, "GuestFramesModel", ck_9, by decide, rfl, rfl, (fun _ => rfl), wd_1418, Or.inl rfl⟩
theorem fl_1419 : zv_fl RX9 43 9 16 (.array .int) true := ⟨RX9, TX9, 55, tyX9, "GuestFramesModel", ck_9, by decide, rfl, rfl, (fun _ => rfl), wd_1419, Or.inl rfl⟩
theorem fl_1420 : zv_fl RX9 46 9 17 (.array .int) true := ⟨RX9, TX9, 55, tyX9, "GuestFramesModel", ck_9, by decide, rfl, rfl, (fun _ => rfl), wd_1420, Or.inl rfl⟩
theorem fl_1421 : zv_fl RX9 49 9 18 (.array .int) true := ⟨RX9, TX9, 55, tyX9, "GuestFramesModel", ck_9, by decide, rfl, rfl, (fun _ => rfl), wd_1421, Or.inl rfl⟩
theorem fl_1423 : zv_fl RX9 52 9 20 (.array .boolean) true := ⟨RX9, TX9, 55, tyX9, "GuestFramesModel", ck_9, by decide, rfl, rfl, (fun _ => rfl), wd_1423, Or.inl rfl⟩
theorem fl_1424 : zv_fl RX9 56 9 21 (.array .int) true := ⟨RX9, TX9, 55, tyX9, "GuestFramesModel", ck_9, by decide, rfl, rfl, (fun _ => rfl), wd_1424, Or.inl rfl⟩
theorem fl_1425 : zv_fl RX9 59 9 22 (.array .int) true := ⟨RX9, TX9, 55, tyX9, "GuestFramesModel", ck_9, by decide, rfl, rfl, (fun _ => rfl), wd_1425, Or.inl rfl⟩
theorem fl_1426 : zv_fl RX9 62 9 23 (.array .int) true := ⟨RX9, TX9, 55, tyX9, "GuestFramesModel", ck_9, by decide, rfl, rfl, (fun _ => rfl), wd_1426, Or.inl rfl⟩
theorem fl_1427 : zv_fl RX9 65 9 24 (.array .int) true := ⟨RX9, TX9, 55, tyX9, "GuestFramesModel", ck_9, by decide, rfl, rfl, (fun _ => rfl), wd_1427, Or.inl rfl⟩
theorem fl_1429 : zv_fl RX9 68 9 26 (.array .int) true := ⟨RX9, TX9, 55, tyX9, "GuestFramesModel", ck_9, by decide, rfl, rfl, (fun _ => rfl), wd_1429, Or.inl rfl⟩
theorem fl_1405 : zv_fl RX9 7 9 2 (.array .int) true := ⟨RX9, TX9, 55, tyX9, "GuestFramesModel", ck_9, by decide, rfl, rfl, (fun _ => rfl), wd_1405, Or.inl rfl⟩
theorem fl_1432 : zv_fl RX9 71 9 29 (.array .boolean) true := ⟨RX9, TX9, 55, tyX9, "GuestFramesModel", ck_9, by decide, rfl, rfl, (fun _ => rfl), wd_1432, Or.inl rfl⟩
theorem fl_1433 : zv_fl RX9 74 9 30 (.array .boolean) true := ⟨RX9, TX9, 55, tyX9, "GuestFramesModel", ck_9, by decide, rfl, rfl, (fun _ => rfl), wd_1433, Or.inl rfl⟩
theorem fl_1434 : zv_fl RX9 77 9 31 (.array .int) true := ⟨RX9, TX9, 55, tyX9, "GuestFramesModel", ck_9, by decide, rfl, rfl, (fun _ => rfl), wd_1434, Or.inl rfl⟩
theorem fl_1435 : zv_fl RX9 80 9 32 (.array .int) true := ⟨RX9, TX9, 55, tyX9, "GuestFramesModel", ck_9, by decide, rfl, rfl, (fun _ => rfl), wd_1435, Or.inl rfl⟩
theorem fl_1436 : zv_fl RX9 83 9 33 (.array .int) true := ⟨RX9, TX9, 55, tyX9, "GuestFramesModel", ck_9, by decide, rfl, rfl, (fun _ => rfl), wd_1436, Or.inl rfl⟩
theorem fl_1437 : zv_fl RX9 86 9 34 (.array .int) true := ⟨RX9, TX9, 55, tyX9, "GuestFramesModel", ck_9, by decide, rfl, rfl, (fun _ => rfl), wd_1437, Or.inl rfl⟩
theorem fl_1438 : zv_fl RX9 89 9 35 (.array .int) true := ⟨RX9, TX9, 55, tyX9, "GuestFramesModel", ck_9, by decide, rfl, rfl, (fun _ => rfl), wd_1438, Or.inl rfl⟩
theorem fl_1440 : zv_fl RX9 92 9 37 (.array .long) true := ⟨RX9, TX9, 55, tyX9, "GuestFramesModel", ck_9, by decide, rfl, rfl, (fun _ => rfl), wd_1440, Or.inl rfl⟩
theorem fl_1442 : zv_fl RX9 96 9 39 (.array .int) true := ⟨RX9, TX9, 55, tyX9, "GuestFramesModel", ck_9, by decide, rfl, rfl, (fun _ => rfl), wd_1442, Or.inl rfl⟩
theorem fl_1443 : zv_fl RX9 99 9 40 (.array .int) true := ⟨RX9, TX9, 55, tyX9, "GuestFramesModel", ck_9, by decide, rfl, rfl, (fun _ => rfl), wd_1443, Or.inl rfl⟩
theorem fg_1444 : zv_fg RX9 102 9 41 := ⟨RX9, TX9, 55, tyX9, "GuestFramesModel", ck_9, by decide, wd_1444, Or.inl rfl⟩
theorem fg_1445 : zv_fg RX9 105 9 42 := ⟨RX9, TX9, 55, tyX9, "GuestFramesModel", ck_9, by decide, wd_1445, Or.inl rfl⟩
theorem fg_1446 : zv_fg RX9 108 9 43 := ⟨RX9, TX9, 55, tyX9, "GuestFramesModel", ck_9, by decide, wd_1446, Or.inl rfl⟩
theorem fg_1447 : zv_fg RX9 111 9 44 := ⟨RX9, TX9, 55, tyX9, "GuestFramesModel", ck_9, by decide, wd_1447, Or.inl rfl⟩
theorem fg_1448 : zv_fg RX9 114 9 45 := ⟨RX9, TX9, 55, tyX9, "GuestFramesModel", ck_9, by decide, wd_1448, Or.inl rfl⟩
theorem fg_1449 : zv_fg RX9 117 9 46 := ⟨RX9, TX9, 55, tyX9, "GuestFramesModel", ck_9, by decide, wd_1449, Or.inl rfl⟩
theorem fg_1404 : zv_fg RX9 120 9 1 := ⟨RX9, TX9, 55, tyX9, "GuestFramesModel", ck_9, by decide, wd_1404, Or.inl rfl⟩
theorem fg_1408 : zv_fg RX9 124 9 5 := ⟨RX9, TX9, 55, tyX9, "GuestFramesModel", ck_9, by decide, wd_1408, Or.inl rfl⟩
theorem fg_1403 : zv_fg RX9 127 9 0 := ⟨RX9, TX9, 55, tyX9, "GuestFramesModel", ck_9, by decide, wd_1403, Or.inl rfl⟩
theorem fg_1406 : zv_fg RX9 13 9 3 := ⟨RX9, TX9, 55, tyX9, "GuestFramesModel", ck_9, by decide, wd_1406, Or.inl rfl⟩
theorem fg_1410 : zv_fg RX9 130 9 7 := ⟨RX9, TX9, 55, tyX9, "GuestFramesModel", ck_9, by decide, wd_1410, Or.inl rfl⟩
theorem fg_1412 : zv_fg RX9 133 9 9 := ⟨RX9, TX9, 55, tyX9, "GuestFramesModel", ck_9, by decide, wd_1412, Or.inl rfl⟩
theorem fg_1422 : zv_fg RX9 136 9 19 := ⟨RX9, TX9, 55, tyX9, "GuestFramesModel", ck_9, by decide, wd_1422, Or.inl rfl⟩
theorem fg_1430 : zv_fg RX9 143 9 27 := ⟨RX9, TX9, 55, tyX9, "GuestFramesModel", ck_9, by decide, wd_1430, Or.inl rfl⟩
theorem fg_1428 : zv_fg RX9 147 9 25 := ⟨RX9, TX9, 55, tyX9, "GuestFramesModel", ck_9, by decide, wd_1428, Or.inl rfl⟩
theorem fg_1431 : zv_fg RX9 154 9 28 := ⟨RX9, TX9, 55, tyX9, "GuestFramesModel", ck_9, by decide, wd_1431, Or.inl rfl⟩
theorem fg_1407 : zv_fg RX9 16 9 4 := ⟨RX9, TX9, 55, tyX9, "GuestFramesModel", ck_9, by decide, wd_1407, Or.inl rfl⟩
theorem fg_1409 : zv_fg RX9 19 9 6 := ⟨RX9, TX9, 55, tyX9, "GuestFramesModel", ck_9, by decide, wd_1409, Or.inl rfl⟩
theorem fg_1450 : zv_fg RX9 214 9 47 := ⟨RX9, TX9, 55, tyX9, "GuestFramesModel", ck_9, by decide, wd_1450, Or.inl rfl⟩
theorem fg_1411 : zv_fg RX9 22 9 8 := ⟨RX9, TX9, 55, tyX9, "GuestFramesModel", ck_9, by decide, wd_1411, Or.inl rfl⟩
theorem fg_1441 : zv_fg RX9 225 9 38 := ⟨RX9, TX9, 55, tyX9, "GuestFramesModel", ck_9, by decide, wd_1441, Or.inl rfl⟩
theorem fg_1439 : zv_fg RX9 228 9 36 := ⟨RX9, TX9, 55, tyX9, "GuestFramesModel", ck_9, by decide, wd_1439, Or.inl rfl⟩
theorem fg_1451 : zv_fg RX9 235 9 48 := ⟨RX9, TX9, 55, tyX9, "GuestFramesModel", ck_9, by decide, wd_1451, Or.inl rfl⟩
theorem fg_1452 : zv_fg RX9 238 9 49 := ⟨RX9, TX9, 55, tyX9, "GuestFramesModel", ck_9, by decide, wd_1452, Or.inl rfl⟩
theorem fg_1455 : zv_fg RX9 241 9 52 := ⟨RX9, TX9, 55, tyX9, "GuestFramesModel", ck_9, by decide, wd_1455, Or.inl rfl⟩
theorem fg_1456 : zv_fg RX9 244 9 53 := ⟨RX9, TX9, 55, tyX9, "GuestFramesModel", ck_9, by decide, wd_1456, Or.inl rfl⟩
theorem fg_1413 : zv_fg RX9 25 9 10 := ⟨RX9, TX9, 55, tyX9, "GuestFramesModel", ck_9, by decide, wd_1413, Or.inl rfl⟩
theorem fg_1454 : zv_fg RX9 253 9 51 := ⟨RX9, TX9, 55, tyX9, "GuestFramesModel", ck_9, by decide, wd_1454, Or.inl rfl⟩
theorem fg_1453 : zv_fg RX9 256 9 50 := ⟨RX9, TX9, 55, tyX9, "GuestFramesModel", ck_9, by decide, wd_1453, Or.inl rfl⟩
theorem fg_1414 : zv_fg RX9 28 9 11 := ⟨RX9, TX9, 55, tyX9, "GuestFramesModel", ck_9, by decide, wd_1414, Or.inl rfl⟩
theorem fg_1415 : zv_fg RX9 31 9 12 := ⟨RX9, TX9, 55, tyX9, "GuestFramesModel", ck_9, by decide, wd_1415, Or.inl rfl⟩
theorem fg_1457 : zv_fg RX9 311 9 54 := ⟨RX9, TX9, 55, tyX9, "GuestFramesModel", ck_9, by decide, wd_1457, Or.inl rfl⟩
theorem fg_1416 : zv_fg RX9 34 9 13 := ⟨RX9, TX9, 55, tyX9, "GuestFramesModel", ck_9, by decide, wd_1416, Or.inl rfl⟩
theorem fg_1417 : zv_fg RX9 37 9 14 := ⟨RX9, TX9, 55, tyX9, "GuestFramesModel", ck_9, by decide, wd_1417, Or.inl rfl⟩
theorem fg_1418 : zv_fg RX9 40 9 15 := ⟨RX9, TX9, 55, tyX9, "GuestFramesModel", ck_9, by decide, wd_1418, Or.inl rfl⟩
theorem fg_1419 : zv_fg RX9 43 9 16 := ⟨RX9, TX9, 55, tyX9, "GuestFramesModel", ck_9, by decide, wd_1419, Or.inl rfl⟩
theorem fg_1420 : zv_fg RX9 46 9 17 := ⟨RX9, TX9, 55, tyX9, "GuestFramesModel", ck_9, by decide, wd_1420, Or.inl rfl⟩
theorem fg_1421 : zv_fg RX9 49 9 18 := ⟨RX9, TX9, 55, tyX9, "GuestFramesModel", ck_9, by decide, wd_1421, Or.inl rfl⟩
theorem fg_1423 : zv_fg RX9 52 9 20 := ⟨RX9, TX9, 55, tyX9, "GuestFramesModel", ck_9, by decide, wd_1423, Or.inl rfl⟩
theorem fg_1424 : zv_fg RX9 56 9 21 := ⟨RX9, TX9, 55, tyX9, "GuestFramesModel", ck_9, by decide, wd_1424, Or.inl rfl⟩
theorem fg_1425 : zv_fg RX9 59 9 22 := ⟨RX9, TX9, 55, tyX9, "GuestFramesModel", ck_9, by decide, wd_1425, Or.inl rfl⟩
theorem fg_1426 : zv_fg RX9 62 9 23 := ⟨RX9, TX9, 55, tyX9, "GuestFramesModel", ck_9, by decide, wd_1426, Or.inl rfl⟩
theorem fg_1427 : zv_fg RX9 65 9 24 := ⟨RX9, TX9, 55, tyX9, "GuestFramesModel", ck_9, by decide, wd_1427, Or.inl rfl⟩
theorem fg_1429 : zv_fg RX9 68 9 26 := ⟨RX9, TX9, 55, tyX9, "GuestFramesModel", ck_9, by decide, wd_1429, Or.inl rfl⟩
theorem fg_1405 : zv_fg RX9 7 9 2 := ⟨RX9, TX9, 55, tyX9, "GuestFramesModel", ck_9, by decide, wd_1405, Or.inl rfl⟩
theorem fg_1432 : zv_fg RX9 71 9 29 := ⟨RX9, TX9, 55, tyX9, "GuestFramesModel", ck_9, by decide, wd_1432, Or.inl rfl⟩
theorem fg_1433 : zv_fg RX9 74 9 30 := ⟨RX9, TX9, 55, tyX9, "GuestFramesModel", ck_9, by decide, wd_1433, Or.inl rfl⟩
theorem fg_1434 : zv_fg RX9 77 9 31 := ⟨RX9, TX9, 55, tyX9, "GuestFramesModel", ck_9, by decide, wd_1434, Or.inl rfl⟩
theorem fg_1435 : zv_fg RX9 80 9 32 := ⟨RX9, TX9, 55, tyX9, "GuestFramesModel", ck_9, by decide, wd_1435, Or.inl rfl⟩
theorem fg_1436 : zv_fg RX9 83 9 33 := ⟨RX9, TX9, 55, tyX9, "GuestFramesModel", ck_9, by decide, wd_1436, Or.inl rfl⟩
theorem fg_1437 : zv_fg RX9 86 9 34 := ⟨RX9, TX9, 55, tyX9, "GuestFramesModel", ck_9, by decide, wd_1437, Or.inl rfl⟩
theorem fg_1438 : zv_fg RX9 89 9 35 := ⟨RX9, TX9, 55, tyX9, "GuestFramesModel", ck_9, by decide, wd_1438, Or.inl rfl⟩
theorem fg_1440 : zv_fg RX9 92 9 37 := ⟨RX9, TX9, 55, tyX9, "GuestFramesModel", ck_9, by decide, wd_1440, Or.inl rfl⟩
theorem fg_1442 : zv_fg RX9 96 9 39 := ⟨RX9, TX9, 55, tyX9, "GuestFramesModel", ck_9, by decide, wd_1442, Or.inl rfl⟩
theorem fg_1443 : zv_fg RX9 99 9 40 := ⟨RX9, TX9, 55, tyX9, "GuestFramesModel", ck_9, by decide, wd_1443, Or.inl rfl⟩
theorem mw_X9_arrayKind : zv_mw yX9_arrayKind cX9_arrayKind 2 ((some .int)) 1 := ⟨wd_1626, wd_103, by decide +kernel, by decide⟩
theorem mw_X9_code : zv_mw yX9_code cX9_code 3 ((some .int)) 2 := ⟨wd_1612, wd_103, by decide +kernel, by decide⟩
theorem mw_X9_doCall : zv_mw yX9_doCall cX9_doCall 3 (none) 1 := ⟨wd_1764, wd_103, by decide +kernel, by decide⟩
theorem mw_X9_doEnd : zv_mw yX9_doEnd cX9_doEnd 4 (none) 1 := ⟨wd_1760, wd_103, by decide +kernel, by decide⟩
theorem mw_X9_doFetch : zv_mw yX9_doFetch cX9_doFetch 7 (none) 1 := ⟨wd_1677, wd_103, by decide +kernel, by decide⟩
theorem mw_X9_doField : zv_mw yX9_doField cX9_doField 11 (none) 3 := ⟨wd_1780, wd_103, by decide +kernel, by decide⟩
theorem mw_X9_doLoad : zv_mw yX9_doLoad cX9_doLoad 5 (none) 4 := ⟨wd_1669, wd_103, by decide +kernel, by decide⟩
theorem mw_X9_doReckoning : zv_mw yX9_doReckoning cX9_doReckoning 10 (none) 4 := ⟨wd_1742, wd_103, by decide +kernel, by decide⟩
theorem mw_X9_doStack : zv_mw yX9_doStack cX9_doStack 7 (none) 2 := ⟨wd_1738, wd_103, by decide +kernel, by decide⟩
theorem mw_X9_doStore : zv_mw yX9_doStore cX9_doStore 11 (none) 1 := ⟨wd_1734, wd_103, by decide +kernel, by decide⟩
theorem mw_X9_doThing : zv_mw yX9_doThing cX9_doThing 9 (none) 3 := ⟨wd_1772, wd_103, by decide +kernel, by decide⟩
theorem mw_X9_doThrow : zv_mw yX9_doThrow cX9_doThrow 3 (none) 0 := ⟨wd_1768, wd_103, by decide +kernel, by decide⟩
theorem mw_X9_fail : zv_mw yX9_fail cX9_fail 2 (none) 1 := ⟨wd_1692, wd_103, by decide +kernel, by decide⟩
theorem mw_X9_goes : zv_mw yX9_goes cX9_goes 6 ((some .boolean)) 1 := ⟨wd_1753, wd_103, by decide +kernel, by decide⟩
theorem mw_X9_holds : zv_mw yX9_holds cX9_holds 5 ((some .boolean)) 3 := ⟨wd_1756, wd_103, by decide +kernel, by decide⟩
theorem mw_X9_hurl : zv_mw yX9_hurl cX9_hurl 6 (none) 1 := ⟨wd_1722, wd_103, by decide +kernel, by decide⟩
theorem mw_X9_isGood : zv_mw yX9_isGood cX9_isGood 3 ((some .boolean)) 1 := ⟨wd_1592, wd_103, by decide +kernel, by decide⟩
theorem mw_X9_isOf : zv_mw yX9_isOf cX9_isOf 4 ((some .boolean)) 2 := ⟨wd_1726, wd_103, by decide +kernel, by decide⟩
theorem mw_X9_isSort : zv_mw yX9_isSort cX9_isSort 3 ((some .boolean)) 2 := ⟨wd_1688, wd_103, by decide +kernel, by decide⟩
theorem mw_X9_judge : zv_mw yX9_judge cX9_judge 9 (none) 2 := ⟨wd_1600, wd_103, by decide +kernel, by decide⟩
theorem mw_X9_judgeBranch : zv_mw yX9_judgeBranch cX9_judgeBranch 2 (none) 1 := ⟨wd_1642, wd_103, by decide +kernel, by decide⟩
theorem mw_X9_judgeLoad : zv_mw yX9_judgeLoad cX9_judgeLoad 5 (none) 3 := ⟨wd_1619, wd_103, by decide +kernel, by decide⟩
theorem mw_X9_judgeReckoning : zv_mw yX9_judgeReckoning cX9_judgeReckoning 6 (none) 3 := ⟨wd_1638, wd_103, by decide +kernel, by decide⟩
theorem mw_X9_judgeStack : zv_mw yX9_judgeStack cX9_judgeStack 5 (none) 2 := ⟨wd_1630, wd_103, by decide +kernel, by decide⟩
theorem mw_X9_judgeThing : zv_mw yX9_judgeThing cX9_judgeThing 6 (none) 4 := ⟨wd_1653, wd_103, by decide +kernel, by decide⟩
theorem mw_X9_lead : zv_mw yX9_lead cX9_lead 5 (none) 2 := ⟨wd_1596, wd_103, by decide +kernel, by decide⟩
theorem mw_X9_length : zv_mw yX9_length cX9_length 4 ((some .int)) 1 := ⟨wd_1615, wd_103, by decide +kernel, by decide⟩
theorem mw_X9_make : zv_mw yX9_make cX9_make 8 ((some .long)) 3 := ⟨wd_1700, wd_103, by decide +kernel, by decide⟩
theorem mw_X9_meet : zv_mw yX9_meet cX9_meet 5 ((some .int)) 2 := ⟨wd_1708, wd_103, by decide +kernel, by decide⟩
theorem mw_X9_noRoom : zv_mw yX9_noRoom cX9_noRoom 1 ((some .long)) 0 := ⟨wd_1776, wd_103, by decide +kernel, by decide⟩
theorem mw_X9_ofInts : zv_mw yX9_ofInts cX9_ofInts 3 ((some .int)) 3 := ⟨wd_1746, wd_103, by decide +kernel, by decide⟩
theorem mw_X9_ofLongs : zv_mw yX9_ofLongs cX9_ofLongs 5 ((some .long)) 3 := ⟨wd_1749, wd_103, by decide +kernel, by decide⟩
theorem mw_X9_open : zv_mw yX9_open cX9_open 3 (none) 1 := ⟨wd_1661, wd_103, by decide +kernel, by decide⟩
theorem mw_X9_peek : zv_mw yX9_peek cX9_peek 3 ((some .long)) 1 := ⟨wd_1681, wd_103, by decide +kernel, by decide⟩
theorem mw_X9_pop : zv_mw yX9_pop cX9_pop 2 (none) 1 := ⟨wd_1623, wd_103, by decide +kernel, by decide⟩
theorem mw_X9_popEither : zv_mw yX9_popEither cX9_popEither 1 ((some .int)) 0 := ⟨wd_1634, wd_103, by decide +kernel, by decide⟩
theorem mw_X9_popValue : zv_mw yX9_popValue cX9_popValue 2 ((some .long)) 0 := ⟨wd_1730, wd_103, by decide +kernel, by decide⟩
theorem mw_X9_push : zv_mw yX9_push cX9_push 3 (none) 2 := ⟨wd_1608, wd_103, by decide +kernel, by decide⟩
theorem mw_X9_pushValue : zv_mw yX9_pushValue cX9_pushValue 6 (none) 2 := ⟨wd_1673, wd_103, by decide +kernel, by decide⟩
theorem mw_X9_raise : zv_mw yX9_raise cX9_raise 4 (none) 1 := ⟨wd_1696, wd_103, by decide +kernel, by decide⟩
theorem mw_X9_reach : zv_mw yX9_reach cX9_reach 7 ((some .long)) 0 := ⟨wd_1704, wd_103, by decide +kernel, by decide⟩
theorem mw_X9_signed : zv_mw yX9_signed cX9_signed 1 ((some .int)) 1 := ⟨wd_1649, wd_103, by decide +kernel, by decide⟩
theorem mw_X9_step : zv_mw yX9_step cX9_step 8 (none) 0 := ⟨wd_1665, wd_103, by decide +kernel, by decide⟩
theorem mw_X9_sweep : zv_mw yX9_sweep cX9_sweep 5 (none) 0 := ⟨wd_1718, wd_103, by decide +kernel, by decide⟩
theorem mw_X9_take : zv_mw yX9_take cX9_take 3 (none) 1 := ⟨wd_1604, wd_103, by decide +kernel, by decide⟩
theorem mw_X9_to : zv_mw yX9_to cX9_to 3 ((some .int)) 2 := ⟨wd_1646, wd_103, by decide +kernel, by decide⟩
theorem mw_X9_wordsOf : zv_mw yX9_wordsOf cX9_wordsOf 3 ((some .long)) 2 := ⟨wd_1711, wd_103, by decide +kernel, by decide⟩
theorem mw_X9_wrong : zv_mw yX9_wrong cX9_wrong 7 ((some .int)) 3 := ⟨wd_1685, wd_103, by decide +kernel, by decide⟩
