theorem wa_c {a : Cond} {l : List Cond} (h1 : goodWord a = true) (h2 : l.all goodWord = true) : (a :: l).all goodWord = true := by
  rw [List.all_cons, h1, h2]; rfl
theorem wa_a {l m : List Cond} (h1 : l.all goodWord = true) (h2 : m.all goodWord = true) : (l ++ m).all goodWord = true := by
  rw [List.all_append, h1, h2]; rfl
theorem wa_V {o C : String} {i : Nat} {y : MethodName} {l : List Cond} (h : l.all goodWord = true) : (wsV o i C y l).all goodWord = true := wa_a rfl h
theorem wa_S {o : String} {i : Nat} {y : MethodName} {l : List Cond} (h : l.all goodWord = true) : (va_wsS o i y l).all goodWord = true := wa_a rfl h
theorem wm_c {a : Cond} {l : List Cond} (h1 : a ∈ lw_tbl) (hg : goodWord a = true) (h2 : GoodIn lw_tbl l) : GoodIn lw_tbl (a :: l) := fun w h => (List.mem_cons.mp h).elim (fun e => e ▸ ⟨h1, good_of_word hg⟩) (fun h => h2 w h)
theorem wm_a {l m : List Cond} (h1 : GoodIn lw_tbl l) (h2 : GoodIn lw_tbl m) : GoodIn lw_tbl (l ++ m) := goodIn_app h1 h2

theorem uq_X0 : wsX00.all goodWord = true := by decide +kernel
theorem ut_X0 : GoodIn lw_tbl wsX00 := goodIn_r _ [197, 199, 201, 203, 205, 207, 209] (by decide +kernel) (by decide +kernel)
theorem uq_X1 : wsX10.all goodWord = true := by decide +kernel
theorem ut_X1 : GoodIn lw_tbl wsX10 := goodIn_r _ [472, 474, 476, 478, 480, 482, 484, 486, 488, 490, 492, 494, 496, 498, 500, 502] (by decide +kernel) (by decide +kernel)
theorem uq_X2 : wsX20.all goodWord = true := by decide +kernel
theorem ut_X2 : GoodIn lw_tbl wsX20 := goodIn_r _ [317, 319, 321, 323, 325, 327] (by decide +kernel) (by decide +kernel)
theorem uq_X3 : wsX30.all goodWord = true := by decide +kernel
theorem ut_X3 : GoodIn lw_tbl wsX30 := goodIn_r _ [362, 364, 366] (by decide +kernel) (by decide +kernel)
theorem uq_X4 : wsX40.all goodWord = true := by decide +kernel
theorem ut_X4 : GoodIn lw_tbl wsX40 := goodIn_r _ [268, 270, 272, 274, 276, 278, 280, 282, 284, 286, 288, 290] (by decide +kernel) (by decide +kernel)
theorem uq_X5 : wsX50.all goodWord = true := by decide +kernel
theorem ut_X5 : GoodIn lw_tbl wsX50 := goodIn_r _ [430, 432, 434, 436, 438] (by decide +kernel) (by decide +kernel)
theorem uq_X6 : wsX60.all goodWord = true := by decide +kernel
theorem ut_X6 : GoodIn lw_tbl wsX60 := goodIn_r _ [342, 344, 346, 348, 350] (by decide +kernel) (by decide +kernel)
theorem uq_X7 : wsX70.all goodWord = true := by decide +kernel
theorem ut_X7 : GoodIn lw_tbl wsX70 := goodIn_r _ [528, 530, 532, 534, 536, 538, 540, 542, 544, 546, 548, 550, 552] (by decide +kernel) (by decide +kernel)
theorem uq_X8 : wsX80.all goodWord = true := by decide +kernel
theorem ut_X8 : GoodIn lw_tbl wsX80 := goodIn_r _ [388, 390, 392, 394, 396, 398, 400, 402, 404, 406, 408, 410, 412] (by decide +kernel) (by decide +kernel)
theorem uq_X9 : wsX90.all goodWord = true := by decide +kernel
theorem ut_X9 : GoodIn lw_tbl wsX90 := goodIn_r _ [564, 566, 568] (by decide +kernel) (by decide +kernel)
theorem uq_X10 : wsX100.all goodWord = true := by decide +kernel
theorem ut_X10 : GoodIn lw_tbl wsX100 := goodIn_r _ [582, 584, 586, 588, 590, 592, 594, 596, 598, 600, 602] (by decide +kernel) (by decide +kernel)
theorem uq_X11 : wsX110.all goodWord = true := by decide +kernel
theorem ut_X11 : GoodIn lw_tbl wsX110 := goodIn_r _ [1429, 1431, 1433, 1435, 1437, 1439, 1441, 1443, 1445, 1447, 1449, 1451, 1453, 1455, 1457, 1459, 1461, 1463, 1465, 1467, 1469, 1471, 1473, 1475, 1477, 1479, 1481, 1483] (by decide +kernel) (by decide +kernel)
theorem uq_X12 : wsX120.all goodWord = true := by decide +kernel
theorem ut_X12 : GoodIn lw_tbl wsX120 := goodIn_r _ [1532, 1534, 1536, 1538, 1540, 1542, 1544, 1546, 1548, 1550, 1552, 1554, 1556, 1558, 1560, 1562, 1564, 1566, 1568, 1570, 1572, 1574, 1576, 1578, 1580, 1582, 1584, 1586, 1588, 1590, 1592, 1594, 1596, 1598, 1600, 1602, 1604, 1606, 1608, 1610, 1612, 1614] (by decide +kernel) (by decide +kernel)
theorem wq_J7_copyOf_9075b : wsJ7_copyOf_9075b.all goodWord = true := by decide +kernel
theorem wt_J7_copyOf_9075b : GoodIn lw_tbl wsJ7_copyOf_9075b := goodIn_r _ [617, 618, 619, 620, 621, 622, 624, 212, 625, 626, 149, 627, 628, 630, 629, 151] (by decide +kernel) (by decide +kernel)
