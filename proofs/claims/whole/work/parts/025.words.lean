theorem wa_c {a : Cond} {l : List Cond} (h1 : goodWord a = true) (h2 : l.all goodWord = true) : (a :: l).all goodWord = true := by
  rw [List.all_cons, h1, h2]; rfl
theorem wa_a {l m : List Cond} (h1 : l.all goodWord = true) (h2 : m.all goodWord = true) : (l ++ m).all goodWord = true := by
  rw [List.all_append, h1, h2]; rfl
theorem wa_V {o C : String} {i : Nat} {y : MethodName} {l : List Cond} (h : l.all goodWord = true) : (wsV o i C y l).all goodWord = true := wa_a rfl h
theorem wa_S {o : String} {i : Nat} {y : MethodName} {l : List Cond} (h : l.all goodWord = true) : (va_wsS o i y l).all goodWord = true := wa_a rfl h
theorem wm_c {a : Cond} {l : List Cond} (h1 : a ∈ lw_tbl) (hg : goodWord a = true) (h2 : GoodIn lw_tbl l) : GoodIn lw_tbl (a :: l) := fun w h => (List.mem_cons.mp h).elim (fun e => e ▸ ⟨h1, good_of_word hg⟩) (fun h => h2 w h)
theorem wm_a {l m : List Cond} (h1 : GoodIn lw_tbl l) (h2 : GoodIn lw_tbl m) : GoodIn lw_tbl (l ++ m) := goodIn_app h1 h2

theorem uq_X0 : wsX00.all goodWord = true := by decide +kernel
theorem ut_X0 : GoodIn lw_tbl wsX00 := goodIn_r _ [196, 198, 200, 202, 204, 206, 208] (by decide +kernel) (by decide +kernel)
theorem uq_X1 : wsX10.all goodWord = true := by decide +kernel
theorem ut_X1 : GoodIn lw_tbl wsX10 := goodIn_r _ [474, 476, 478, 480, 482, 484, 486, 488, 490, 492, 494, 496, 498, 500, 502, 504] (by decide +kernel) (by decide +kernel)
theorem uq_X2 : wsX20.all goodWord = true := by decide +kernel
theorem ut_X2 : GoodIn lw_tbl wsX20 := goodIn_r _ [316, 318, 320, 322, 324, 326] (by decide +kernel) (by decide +kernel)
theorem uq_X3 : wsX30.all goodWord = true := by decide +kernel
theorem ut_X3 : GoodIn lw_tbl wsX30 := goodIn_r _ [361, 363, 365] (by decide +kernel) (by decide +kernel)
theorem uq_X4 : wsX40.all goodWord = true := by decide +kernel
theorem ut_X4 : GoodIn lw_tbl wsX40 := goodIn_r _ [267, 269, 271, 273, 275, 277, 279, 281, 283, 285, 287, 289] (by decide +kernel) (by decide +kernel)
theorem uq_X5 : wsX50.all goodWord = true := by decide +kernel
theorem ut_X5 : GoodIn lw_tbl wsX50 := goodIn_r _ [432, 434, 436, 438, 440] (by decide +kernel) (by decide +kernel)
theorem uq_X6 : wsX60.all goodWord = true := by decide +kernel
theorem ut_X6 : GoodIn lw_tbl wsX60 := goodIn_r _ [341, 343, 345, 347, 349] (by decide +kernel) (by decide +kernel)
theorem uq_X7 : wsX70.all goodWord = true := by decide +kernel
theorem ut_X7 : GoodIn lw_tbl wsX70 := goodIn_r _ [530, 532, 534, 536, 538, 540, 542, 544, 546, 548, 550, 552, 554] (by decide +kernel) (by decide +kernel)
theorem uq_X8 : wsX80.all goodWord = true := by decide +kernel
theorem ut_X8 : GoodIn lw_tbl wsX80 := goodIn_r _ [388, 390, 392, 394, 396, 398, 400, 402, 404, 406, 408, 410, 412, 414] (by decide +kernel) (by decide +kernel)
theorem uq_X9 : wsX90.all goodWord = true := by decide +kernel
theorem ut_X9 : GoodIn lw_tbl wsX90 := goodIn_r _ [566, 568, 570] (by decide +kernel) (by decide +kernel)
theorem uq_X10 : wsX100.all goodWord = true := by decide +kernel
theorem ut_X10 : GoodIn lw_tbl wsX100 := goodIn_r _ [584, 586, 588, 590, 592, 594, 596, 598, 600, 602, 604] (by decide +kernel) (by decide +kernel)
theorem uq_X11 : wsX110.all goodWord = true := by decide +kernel
theorem ut_X11 : GoodIn lw_tbl wsX110 := goodIn_r _ [1428, 1430, 1432, 1434, 1436, 1438, 1440, 1442, 1444, 1446, 1448, 1450, 1452, 1454, 1456, 1458, 1460, 1462, 1464, 1466, 1468, 1470, 1472, 1474, 1476, 1478, 1480, 1482] (by decide +kernel) (by decide +kernel)
theorem uq_X12 : wsX120.all goodWord = true := by decide +kernel
theorem ut_X12 : GoodIn lw_tbl wsX120 := goodIn_r _ [1531, 1533, 1535, 1537, 1539, 1541, 1543, 1545, 1547, 1549, 1551, 1553, 1555, 1557, 1559, 1561, 1563, 1565, 1567, 1569, 1571, 1573, 1575, 1577, 1579, 1581, 1583, 1585, 1587, 1589, 1591, 1593, 1595, 1597, 1599, 1601, 1603, 1605, 1607, 1609, 1611, 1613] (by decide +kernel) (by decide +kernel)
theorem wq_J7_copyOf_9075b : wsJ7_copyOf_9075b.all goodWord = true := by decide +kernel
theorem wt_J7_copyOf_9075b : GoodIn lw_tbl wsJ7_copyOf_9075b := goodIn_r _ [619, 620, 621, 622, 623, 624, 626, 211, 627, 628, 148, 629, 630, 632, 631, 150] (by decide +kernel) (by decide +kernel)
