theorem az_in {w : Cond} (i : Nat) (h : lw_tbl[i]? = some w) (hg : goodWord w = true) : w ∈ az_gw := List.mem_filter.mpr ⟨List.mem_of_getElem? h, hg⟩
theorem az_inl {ws : List Cond} (ps : List Nat) (h : ws = ps.filterMap (fun i => lw_tbl[i]?)) (hg : ws.all goodWord = true) : ∀ w ∈ ws, w ∈ az_gw := fun w hw => List.mem_filter.mpr ⟨by rw [h] at hw; obtain ⟨i, -, hi⟩ := List.mem_filterMap.mp hw; exact List.mem_of_getElem? hi, List.all_eq_true.mp hg w hw⟩
theorem az_inT1 {w : Cond} (i : Nat) (h : tables_1_1[i]? = some w) (hg : goodWord w = true) : w ∈ az_gw := List.mem_filter.mpr ⟨List.mem_append_right _ (by have h := List.mem_of_getElem? h; exact List.mem_append_left _ h), hg⟩
theorem az_inT2 {w : Cond} (i : Nat) (h : tables_1_2[i]? = some w) (hg : goodWord w = true) : w ∈ az_gw := List.mem_filter.mpr ⟨List.mem_append_right _ (by have h := List.mem_of_getElem? h; exact List.mem_append_right _ (List.mem_append_left _ h)), hg⟩
theorem az_inT3 {w : Cond} (i : Nat) (h : tables_1_3[i]? = some w) (hg : goodWord w = true) : w ∈ az_gw := List.mem_filter.mpr ⟨List.mem_append_right _ (by have h := List.mem_of_getElem? h; exact List.mem_append_right _ (List.mem_append_right _ (List.mem_append_left _ h))), hg⟩
theorem az_inT4 {w : Cond} (i : Nat) (h : tables_1_4[i]? = some w) (hg : goodWord w = true) : w ∈ az_gw := List.mem_filter.mpr ⟨List.mem_append_right _ (by have h := List.mem_of_getElem? h; exact List.mem_append_right _ (List.mem_append_right _ (List.mem_append_right _ (List.mem_append_left _ h)))), hg⟩
theorem az_inT5 {w : Cond} (i : Nat) (h : tables_1_5[i]? = some w) (hg : goodWord w = true) : w ∈ az_gw := List.mem_filter.mpr ⟨List.mem_append_right _ (by have h := List.mem_of_getElem? h; exact List.mem_append_right _ (List.mem_append_right _ (List.mem_append_right _ (List.mem_append_right _ (List.mem_append_left _ h))))), hg⟩
theorem az_inT6 {w : Cond} (i : Nat) (h : tables_1_6[i]? = some w) (hg : goodWord w = true) : w ∈ az_gw := List.mem_filter.mpr ⟨List.mem_append_right _ (by have h := List.mem_of_getElem? h; exact List.mem_append_right _ (List.mem_append_right _ (List.mem_append_right _ (List.mem_append_right _ (List.mem_append_right _ (List.mem_append_left _ h)))))), hg⟩
theorem az_inT7 {w : Cond} (i : Nat) (h : tables_1_7[i]? = some w) (hg : goodWord w = true) : w ∈ az_gw := List.mem_filter.mpr ⟨List.mem_append_right _ (by have h := List.mem_of_getElem? h; exact List.mem_append_right _ (List.mem_append_right _ (List.mem_append_right _ (List.mem_append_right _ (List.mem_append_right _ (List.mem_append_right _ (List.mem_append_left _ h))))))), hg⟩
theorem az_inT8 {w : Cond} (i : Nat) (h : tables_1_8[i]? = some w) (hg : goodWord w = true) : w ∈ az_gw := List.mem_filter.mpr ⟨List.mem_append_right _ (by have h := List.mem_of_getElem? h; exact List.mem_append_right _ (List.mem_append_right _ (List.mem_append_right _ (List.mem_append_right _ (List.mem_append_right _ (List.mem_append_right _ (List.mem_append_right _ (List.mem_append_left _ h)))))))), hg⟩
theorem az_inT9 {w : Cond} (i : Nat) (h : tables_1_9[i]? = some w) (hg : goodWord w = true) : w ∈ az_gw := List.mem_filter.mpr ⟨List.mem_append_right _ (by have h := List.mem_of_getElem? h; exact List.mem_append_right _ (List.mem_append_right _ (List.mem_append_right _ (List.mem_append_right _ (List.mem_append_right _ (List.mem_append_right _ (List.mem_append_right _ (List.mem_append_right _ (h))))))))), hg⟩
theorem az_lay0 : ∀ w ∈ u_ws RX0 TX0 11, w ∈ az_gw := az_inl [433, 435, 437, 439, 441, 443, 445, 447, 449, 451, 453] (by decide +kernel) (by decide +kernel)
theorem az_cl0 : az_CL 0 RX0 TX0 11 tyX0 := ⟨rfl, az_lay0, tyX0_ok, nmX0, rfl, by decide, by decide +kernel⟩
theorem az_lay1 : ∀ w ∈ u_ws RX1 TX1 2, w ∈ az_gw := az_inl [465, 467] (by decide +kernel) (by decide +kernel)
theorem az_cl1 : az_CL 1 RX1 TX1 2 tyX1 := ⟨rfl, az_lay1, tyX1_ok, nmX1, rfl, by decide, by decide +kernel⟩
theorem az_lay2 : ∀ w ∈ u_ws RX2 TX2 4, w ∈ az_gw := az_inl [358, 360, 362, 364] (by decide +kernel) (by decide +kernel)
theorem az_cl2 : az_CL 2 RX2 TX2 4 tyX2 := ⟨rfl, az_lay2, tyX2_ok, nmX2, rfl, by decide, by decide +kernel⟩
theorem az_lay3 : ∀ w ∈ u_ws RX3 TX3 3, w ∈ az_gw := az_inl [613, 615, 617] (by decide +kernel) (by decide +kernel)
theorem az_cl3 : az_CL 3 RX3 TX3 3 tyX3 := ⟨rfl, az_lay3, tyX3_ok, nmX3, rfl, by decide, by decide +kernel⟩
theorem az_lay4 : ∀ w ∈ u_ws RX4 TX4 15, w ∈ az_gw := az_inl [385, 387, 389, 391, 393, 395, 397, 399, 401, 403, 405, 407, 409, 411, 413] (by decide +kernel) (by decide +kernel)
theorem az_cl4 : az_CL 4 RX4 TX4 15 tyX4 := ⟨rfl, az_lay4, tyX4_ok, nmX4, rfl, by decide, by decide +kernel⟩
theorem az_lay5 : ∀ w ∈ u_ws RX5 TX5 16, w ∈ az_gw := az_inl [501, 503, 505, 507, 509, 511, 513, 515, 517, 519, 521, 523, 525, 527, 529, 531] (by decide +kernel) (by decide +kernel)
theorem az_cl5 : az_CL 5 RX5 TX5 16 tyX5 := ⟨rfl, az_lay5, tyX5_ok, nmX5, rfl, by decide, by decide +kernel⟩
theorem az_lay6 : ∀ w ∈ u_ws RX6 TX6 8, w ∈ az_gw := az_inl [321, 323, 325, 327, 329, 331, 333, 335] (by decide +kernel) (by decide +kernel)
theorem az_cl6 : az_CL 6 RX6 TX6 8 tyX6 := ⟨rfl, az_lay6, tyX6_ok, nmX6, rfl, by decide, by decide +kernel⟩
theorem az_lay7 : ∀ w ∈ u_ws RX7 TX7 2, w ∈ az_gw := az_inl [196, 198] (by decide +kernel) (by decide +kernel)
theorem az_cl7 : az_CL 7 RX7 TX7 2 tyX7 := ⟨rfl, az_lay7, tyX7_ok, nmX7, rfl, by decide, by decide +kernel⟩
theorem az_lay8 : ∀ w ∈ u_ws RX8 TX8 16, w ∈ az_gw := az_inl [569, 571, 573, 575, 577, 579, 581, 583, 585, 587, 589, 591, 593, 595, 597, 599] (by decide +kernel) (by decide +kernel)
theorem az_cl8 : az_CL 8 RX8 TX8 16 tyX8 := ⟨rfl, az_lay8, tyX8_ok, nmX8, rfl, by decide, by decide +kernel⟩
theorem az_lay9 : ∀ w ∈ u_ws RX9 TX9 17, w ∈ az_gw := az_inl [254, 256, 258, 260, 262, 264, 266, 268, 270, 272, 274, 276, 278, 280, 282, 284, 286] (by decide +kernel) (by decide +kernel)
theorem az_cl9 : az_CL 9 RX9 TX9 17 tyX9 := ⟨rfl, az_lay9, tyX9_ok, nmX9, rfl, by decide, by decide +kernel⟩
theorem az_lay10 : ∀ w ∈ u_ws RX10 TX10 18, w ∈ az_gw := az_inl [638, 640, 642, 644, 646, 648, 650, 652, 654, 656, 658, 660, 662, 664, 666, 668, 670, 672] (by decide +kernel) (by decide +kernel)
theorem az_cl10 : az_CL 10 RX10 TX10 18 tyX10 := ⟨rfl, az_lay10, tyX10_ok, nmX10, rfl, by decide, by decide +kernel⟩
theorem az_lay11 : ∀ w ∈ u_ws RX11 TX11 116, w ∈ az_gw := az_inl [1399, 1401, 1403, 1405, 1407, 1409, 1411, 1413, 1415, 1417, 1419, 1421, 1423, 1425, 1427, 1429, 1431, 1433, 1435, 1437, 1439, 1441, 1443, 1445, 1447, 1449, 1451, 1453, 1455, 1457, 1459, 1461, 1463, 1465, 1467, 1469, 1471, 1473, 1475, 1477, 1479, 1481, 1483, 1485, 1487, 1489, 1491, 1493, 1495, 1497, 1499, 1501, 1503, 1505, 1507, 1509, 1511, 1513, 1515, 1517, 1519, 1521, 1523, 1525, 1527, 1529, 1531, 1533, 1535, 1537, 1539, 1541, 1543, 1545, 1547, 1549, 1551, 1553, 1555, 1557, 1559, 1561, 1563, 1565, 1567, 1569, 1571, 1573, 1575, 1577, 1579, 1581, 1583, 1585, 1587, 1589, 1591, 1593, 1595, 1597, 1599, 1601, 1603, 1605, 1607, 1609, 1611, 1613, 1615, 1617, 1619, 1621, 1623, 1625, 1627, 1629] (by decide +kernel) (by decide +kernel)
theorem az_cl11 : az_CL 11 RX11 TX11 116 tyX11 := ⟨rfl, az_lay11, tyX11_ok, nmX11, rfl, by decide, by decide +kernel⟩
set_option maxRecDepth 20000 in
theorem fl_X10_17 : az_FL RX10 17 10 2 (.int) false := ⟨2, RX10, TX10, 18, tyX10, az_cl10, rfl, by decide, az_inT3 2 rfl rfl, rfl, rfl, rfl⟩
set_option maxRecDepth 20000 in
theorem ml_X10_112 : Cond.methodLink RX10 112 yX10_refuse ∈ az_gw := az_inT3 71 rfl rfl
set_option maxRecDepth 20000 in
theorem fl_X10_29 : az_FL RX10 29 10 5 (.object "FamilyReducer$Told") false := ⟨5, RX10, TX10, 18, tyX10, az_cl10, rfl, by decide, az_inT3 5 rfl rfl, rfl, rfl, rfl⟩
set_option maxRecDepth 20000 in
theorem fl_X10_144 : az_FL RX10 144 9 1 (.int) false := ⟨1, RX9, TX9, 17, tyX9, az_cl9, rfl, by decide, az_inT1 69 rfl rfl, rfl, rfl, rfl⟩
set_option maxRecDepth 20000 in
theorem fl_X10_221 : az_FL RX10 221 9 14 (.array .int) true := ⟨14, RX9, TX9, 17, tyX9, az_cl9, rfl, by decide, az_inT1 107 rfl rfl, rfl, rfl, rfl⟩
set_option maxRecDepth 20000 in
theorem fl_X10_224 : az_FL RX10 224 9 15 (.array .int) true := ⟨15, RX9, TX9, 17, tyX9, az_cl9, rfl, by decide, az_inT1 110 rfl rfl, rfl, rfl, rfl⟩
set_option maxRecDepth 20000 in
theorem fl_X10_227 : az_FL RX10 227 9 16 (.array .int) true := ⟨16, RX9, TX9, 17, tyX9, az_cl9, rfl, by decide, az_inT1 113 rfl rfl, rfl, rfl, rfl⟩
set_option maxRecDepth 20000 in
theorem ml_X10_138 : Cond.methodLink RX10 138 yX10_give ∈ az_gw := az_inT4 62 rfl rfl
set_option maxRecDepth 20000 in
theorem fl_X10_135 : az_FL RX10 135 9 2 (.int) false := ⟨2, RX9, TX9, 17, tyX9, az_cl9, rfl, by decide, az_inT1 73 rfl rfl, rfl, rfl, rfl⟩
set_option maxRecDepth 20000 in
theorem fl_X9_56 : az_FL RX9 56 9 13 (.array .boolean) true := ⟨13, RX9, TX9, 17, tyX9, az_cl9, rfl, by decide, az_inT1 103 rfl rfl, rfl, rfl, rfl⟩
set_option maxRecDepth 20000 in
theorem ml_X10_176 : Cond.methodLink RX10 176 yX10_isEquation ∈ az_gw := az_inT4 106 rfl rfl
set_option maxRecDepth 20000 in
theorem fl_X10_179 : az_FL RX10 179 9 9 (.array .int) true := ⟨9, RX9, TX9, 17, tyX9, az_cl9, rfl, by decide, az_inT1 89 rfl rfl, rfl, rfl, rfl⟩
set_option maxRecDepth 20000 in
theorem ml_X10_202 : Cond.methodLink RX10 202 yX9_agree ∈ az_gw := az_inT4 136 rfl rfl
set_option maxRecDepth 20000 in
theorem fl_X7_9 : az_FL RX7 9 7 1 (.int) false := ⟨1, RX7, TX7, 2, tyX7, az_cl7, rfl, by decide, az_inT1 48 rfl rfl, rfl, rfl, rfl⟩
set_option maxRecDepth 20000 in
theorem fl_X7_21 : az_FL RX7 21 7 0 (.array .int) true := ⟨0, RX7, TX7, 2, tyX7, az_cl7, rfl, by decide, az_inT1 39 rfl rfl, rfl, rfl, rfl⟩
set_option maxRecDepth 20000 in
theorem ml_X0_47 : Cond.methodLink RX0 47 yX7_end ∈ az_gw := az_inT4 2 rfl rfl
set_option maxRecDepth 20000 in
theorem fl_X0_53 : az_FL RX0 53 7 0 (.array .int) true := ⟨0, RX7, TX7, 2, tyX7, az_cl7, rfl, by decide, az_inT1 41 rfl rfl, rfl, rfl, rfl⟩
set_option maxRecDepth 20000 in
theorem ml_X0_56 : Cond.methodLink RX0 56 yX7_kind ∈ az_gw := az_inT4 6 rfl rfl
set_option maxRecDepth 20000 in
theorem ct_X0_59 : Cond.constant RX0 59 (-1000000000) ∈ az_gw := az_inT4 7 rfl rfl
set_option maxRecDepth 20000 in
theorem fl_X0_9 : az_FL RX0 9 0 0 (.int) false := ⟨0, RX0, TX0, 11, tyX0, az_cl0, rfl, by decide, az_inT2 42 rfl rfl, rfl, rfl, rfl⟩
set_option maxRecDepth 20000 in
theorem fl_X0_19 : az_FL RX0 19 0 2 (.array .int) true := ⟨2, RX0, TX0, 11, tyX0, az_cl0, rfl, by decide, az_inT2 44 rfl rfl, rfl, rfl, rfl⟩
set_option maxRecDepth 20000 in
theorem fl_X0_15 : az_FL RX0 15 0 1 (.array .int) true := ⟨1, RX0, TX0, 11, tyX0, az_cl0, rfl, by decide, az_inT2 43 rfl rfl, rfl, rfl, rfl⟩
set_option maxRecDepth 20000 in
theorem fl_X0_22 : az_FL RX0 22 0 3 (.array .int) true := ⟨3, RX0, TX0, 11, tyX0, az_cl0, rfl, by decide, az_inT2 45 rfl rfl, rfl, rfl, rfl⟩
set_option maxRecDepth 20000 in
theorem ml_X0_60 : Cond.methodLink RX0 60 yX7_samePart ∈ az_gw := az_inT4 8 rfl rfl
set_option maxRecDepth 20000 in
theorem fl_X0_25 : az_FL RX0 25 0 4 (.array .int) true := ⟨4, RX0, TX0, 11, tyX0, az_cl0, rfl, by decide, az_inT2 46 rfl rfl, rfl, rfl, rfl⟩
set_option maxRecDepth 20000 in
theorem fl_X0_44 : az_FL RX0 44 0 10 (.array .int) true := ⟨10, RX0, TX0, 11, tyX0, az_cl0, rfl, by decide, az_inT2 52 rfl rfl, rfl, rfl, rfl⟩
set_option maxRecDepth 20000 in
theorem fl_X0_41 : az_FL RX0 41 0 9 (.array .int) true := ⟨9, RX0, TX0, 11, tyX0, az_cl0, rfl, by decide, az_inT2 51 rfl rfl, rfl, rfl, rfl⟩
set_option maxRecDepth 20000 in
theorem ml_X0_64 : Cond.methodLink RX0 64 yX7_arity ∈ az_gw := az_inT4 12 rfl rfl
set_option maxRecDepth 20000 in
theorem fl_X0_35 : az_FL RX0 35 0 7 (.array .int) true := ⟨7, RX0, TX0, 11, tyX0, az_cl0, rfl, by decide, az_inT2 49 rfl rfl, rfl, rfl, rfl⟩
set_option maxRecDepth 20000 in
theorem ml_X0_67 : Cond.methodLink RX0 67 Lib.Math.max.name ∈ az_gw := az_inT4 13 rfl rfl
set_option maxRecDepth 20000 in
theorem fl_X0_31 : az_FL RX0 31 0 6 (.array .boolean) true := ⟨6, RX0, TX0, 11, tyX0, az_cl0, rfl, by decide, az_inT2 48 rfl rfl, rfl, rfl, rfl⟩
set_option maxRecDepth 20000 in
theorem fl_X0_38 : az_FL RX0 38 0 8 (.array .int) true := ⟨8, RX0, TX0, 11, tyX0, az_cl0, rfl, by decide, az_inT2 50 rfl rfl, rfl, rfl, rfl⟩
set_option maxRecDepth 20000 in
theorem ct_X0_73 : Cond.constant RX0 73 1000000 ∈ az_gw := az_inT4 18 rfl rfl
set_option maxRecDepth 20000 in
theorem ml_X0_74 : Cond.methodLink RX0 74 yX0_top ∈ az_gw := az_inT4 19 rfl rfl
set_option maxRecDepth 20000 in
theorem ml_X0_77 : Cond.methodLink RX0 77 yX0_isVariable ∈ az_gw := az_inT4 23 rfl rfl
set_option maxRecDepth 20000 in
theorem fl_X0_28 : az_FL RX0 28 0 5 (.array .int) true := ⟨5, RX0, TX0, 11, tyX0, az_cl0, rfl, by decide, az_inT2 47 rfl rfl, rfl, rfl, rfl⟩
set_option maxRecDepth 20000 in
theorem ml_X0_81 : Cond.methodLink RX0 81 yX0_kidsAreMarked ∈ az_gw := az_inT4 31 rfl rfl
set_option maxRecDepth 20000 in
theorem fl_X1_15 : az_FL RX1 15 1 0 (.object "FamilyReducer$Joiner") true := ⟨0, RX1, TX1, 2, tyX1, az_cl1, rfl, by decide, az_inT2 82 rfl rfl, rfl, rfl, rfl⟩
set_option maxRecDepth 20000 in
theorem ml_X1_43 : Cond.methodLink RX1 43 yX0_clear ∈ az_gw := az_inT3 234 rfl rfl
set_option maxRecDepth 20000 in
theorem fl_X1_48 : az_FL RX1 48 9 11 (.array (.object "FamilyReducer$Row")) true := ⟨11, RX9, TX9, 17, tyX9, az_cl9, rfl, by decide, az_inT1 95 rfl rfl, rfl, rfl, rfl⟩
set_option maxRecDepth 20000 in
theorem ml_X1_52 : Cond.methodLink RX1 52 yX0_lay ∈ az_gw := az_inT3 238 rfl rfl
set_option maxRecDepth 20000 in
theorem fl_X1_9 : az_FL RX1 9 1 1 (.int) false := ⟨1, RX1, TX1, 2, tyX1, az_cl1, rfl, by decide, az_inT2 83 rfl rfl, rfl, rfl, rfl⟩
set_option maxRecDepth 20000 in
theorem ml_X1_56 : Cond.methodLink RX1 56 yX0_join ∈ az_gw := az_inT4 14 rfl rfl
set_option maxRecDepth 20000 in
theorem ml_X1_60 : Cond.methodLink RX1 60 yX0_hasCircle ∈ az_gw := az_inT4 27 rfl rfl
set_option maxRecDepth 20000 in
theorem fl_X3_9 : az_FL RX3 9 3 0 (.int) false := ⟨0, RX3, TX3, 3, tyX3, az_cl3, rfl, by decide, az_inT2 228 rfl rfl, rfl, rfl, rfl⟩
set_option maxRecDepth 20000 in
theorem fl_X3_15 : az_FL RX3 15 3 1 (.array .int) false := ⟨1, RX3, TX3, 3, tyX3, az_cl3, rfl, by decide, az_inT2 230 rfl rfl, rfl, rfl, rfl⟩
set_option maxRecDepth 20000 in
theorem ct_X3_22 : Cond.constant RX3 22 1000000 ∈ az_gw := az_inT4 150 rfl rfl
set_option maxRecDepth 20000 in
theorem ml_X3_23 : Cond.methodLink RX3 23 arraycopyName ∈ az_gw := az_inT4 155 rfl rfl
set_option maxRecDepth 20000 in
theorem ct_X3_29 : Cond.constant RX3 29 14348907 ∈ az_gw := az_inT4 170 rfl rfl
set_option maxRecDepth 20000 in
theorem ml_X3_30 : Cond.methodLink RX3 30 yX3_put ∈ az_gw := az_inT4 151 rfl rfl
set_option maxRecDepth 20000 in
theorem ml_X9_71 : Cond.methodLink RX9 71 yX7_number ∈ az_gw := az_inT3 215 rfl rfl
set_option maxRecDepth 20000 in
theorem ml_X9_75 : Cond.methodLink RX9 75 yX7_kind ∈ az_gw := az_inT4 84 rfl rfl
set_option maxRecDepth 20000 in
theorem fl_X9_9 : az_FL RX9 9 9 0 (.int) false := ⟨0, RX9, TX9, 17, tyX9, az_cl9, rfl, by decide, az_inT1 63 rfl rfl, rfl, rfl, rfl⟩
set_option maxRecDepth 20000 in
theorem fl_X9_21 : az_FL RX9 21 9 3 (.array .int) true := ⟨3, RX9, TX9, 17, tyX9, az_cl9, rfl, by decide, az_inT1 75 rfl rfl, rfl, rfl, rfl⟩
set_option maxRecDepth 20000 in
theorem fl_X9_15 : az_FL RX9 15 9 1 (.int) false := ⟨1, RX9, TX9, 17, tyX9, az_cl9, rfl, by decide, az_inT1 66 rfl rfl, rfl, rfl, rfl⟩
set_option maxRecDepth 20000 in
theorem fl_X9_28 : az_FL RX9 28 9 5 (.array .int) true := ⟨5, RX9, TX9, 17, tyX9, az_cl9, rfl, by decide, az_inT1 77 rfl rfl, rfl, rfl, rfl⟩
set_option maxRecDepth 20000 in
theorem fl_X3_19 : az_FL RX3 19 3 2 (.array .int) true := ⟨2, RX3, TX3, 3, tyX3, az_cl3, rfl, by decide, az_inT2 232 rfl rfl, rfl, rfl, rfl⟩
set_option maxRecDepth 20000 in
theorem ml_X3_63 : Cond.methodLink RX3 63 yX0_joinedCode ∈ az_gw := az_inT4 158 rfl rfl
set_option maxRecDepth 20000 in
theorem ml_X3_58 : Cond.methodLink RX3 58 yX9_nameOf ∈ az_gw := az_inT4 162 rfl rfl
set_option maxRecDepth 20000 in
theorem ml_X3_48 : Cond.methodLink RX3 48 yX3_putLetters ∈ az_gw := az_inT4 166 rfl rfl
set_option maxRecDepth 20000 in
theorem ml_X3_44 : Cond.methodLink RX3 44 yX7_arity ∈ az_gw := az_inT4 171 rfl rfl
set_option maxRecDepth 20000 in
theorem ml_X3_68 : Cond.methodLink RX3 68 yX0_joinedKid ∈ az_gw := az_inT4 172 rfl rfl
set_option maxRecDepth 20000 in
theorem fl_X10_64 : az_FL RX10 64 10 10 (.object "FamilyReducer$Judge") true := ⟨10, RX10, TX10, 18, tyX10, az_cl10, rfl, by decide, az_inT3 10 rfl rfl, rfl, rfl, rfl⟩
set_option maxRecDepth 20000 in
theorem ml_X10_198 : Cond.methodLink RX10 198 yX1_meetLefts ∈ az_gw := az_inT4 131 rfl rfl
set_option maxRecDepth 20000 in
theorem fl_X10_55 : az_FL RX10 55 10 9 (.object "FamilyReducer$Joiner") true := ⟨9, RX10, TX10, 18, tyX10, az_cl10, rfl, by decide, az_inT3 9 rfl rfl, rfl, rfl, rfl⟩
set_option maxRecDepth 20000 in
theorem fl_X10_206 : az_FL RX10 206 1 1 (.int) false := ⟨1, RX1, TX1, 2, tyX1, az_cl1, rfl, by decide, az_inT2 84 rfl rfl, rfl, rfl, rfl⟩
set_option maxRecDepth 20000 in
theorem ml_X10_209 : Cond.methodLink RX10 209 yX0_nameVariables ∈ az_gw := az_inT4 141 rfl rfl
set_option maxRecDepth 20000 in
theorem fl_X10_192 : az_FL RX10 192 9 12 (.array (.object "FamilyReducer$Row")) true := ⟨12, RX9, TX9, 17, tyX9, az_cl9, rfl, by decide, az_inT1 100 rfl rfl, rfl, rfl, rfl⟩
set_option maxRecDepth 20000 in
theorem ml_X10_212 : Cond.methodLink RX10 212 yX0_lay ∈ az_gw := az_inT4 145 rfl rfl
set_option maxRecDepth 20000 in
theorem fl_X10_105 : az_FL RX10 105 10 17 (.object "FamilyReducer$Printer") true := ⟨17, RX10, TX10, 18, tyX10, az_cl10, rfl, by decide, az_inT3 17 rfl rfl, rfl, rfl, rfl⟩
set_option maxRecDepth 20000 in
theorem fl_X10_216 : az_FL RX10 216 3 0 (.int) false := ⟨0, RX3, TX3, 3, tyX3, az_cl3, rfl, by decide, az_inT2 229 rfl rfl, rfl, rfl, rfl⟩
set_option maxRecDepth 20000 in
theorem ml_X10_217 : Cond.methodLink RX10 217 yX3_putJoined ∈ az_gw := az_inT4 146 rfl rfl
set_option maxRecDepth 20000 in
theorem fl_X9_41 : az_FL RX9 41 9 9 (.array .int) true := ⟨9, RX9, TX9, 17, tyX9, az_cl9, rfl, by decide, az_inT1 86 rfl rfl, rfl, rfl, rfl⟩
set_option maxRecDepth 20000 in
theorem ml_X7_15 : Cond.methodLink RX7 15 Lib.Math.max.name ∈ az_gw := az_inT1 36 rfl rfl
set_option maxRecDepth 20000 in
theorem fl_X9_53 : az_FL RX9 53 9 12 (.array (.object "FamilyReducer$Row")) true := ⟨12, RX9, TX9, 17, tyX9, az_cl9, rfl, by decide, az_inT1 98 rfl rfl, rfl, rfl, rfl⟩
set_option maxRecDepth 20000 in
theorem fl_X9_85 : az_FL RX9 85 7 0 (.array .int) true := ⟨0, RX7, TX7, 2, tyX7, az_cl7, rfl, by decide, az_inT1 44 rfl rfl, rfl, rfl, rfl⟩
set_option maxRecDepth 20000 in
theorem fl_X9_49 : az_FL RX9 49 9 11 (.array (.object "FamilyReducer$Row")) true := ⟨11, RX9, TX9, 17, tyX9, az_cl9, rfl, by decide, az_inT1 93 rfl rfl, rfl, rfl, rfl⟩
set_option maxRecDepth 20000 in
theorem fl_X9_82 : az_FL RX9 82 7 1 (.int) false := ⟨1, RX7, TX7, 2, tyX7, az_cl7, rfl, by decide, az_inT1 53 rfl rfl, rfl, rfl, rfl⟩
set_option maxRecDepth 20000 in
theorem fl_X9_44 : az_FL RX9 44 9 10 (.array .int) true := ⟨10, RX9, TX9, 17, tyX9, az_cl9, rfl, by decide, az_inT1 90 rfl rfl, rfl, rfl, rfl⟩
set_option maxRecDepth 20000 in
theorem ml_X9_101 : Cond.methodLink RX9 101 yX7_times ∈ az_gw := az_inT4 123 rfl rfl
set_option maxRecDepth 20000 in
theorem ml_X9_95 : Cond.methodLink RX9 95 yX7_end ∈ az_gw := az_inT4 118 rfl rfl
set_option maxRecDepth 20000 in
theorem ml_X9_98 : Cond.methodLink RX9 98 yX9_unboundedAt ∈ az_gw := az_inT4 119 rfl rfl
set_option maxRecDepth 20000 in
theorem ml_X10_182 : Cond.methodLink RX10 182 yX9_rank ∈ az_gw := az_inT4 110 rfl rfl
set_option maxRecDepth 20000 in
theorem fl_X10_185 : az_FL RX10 185 9 10 (.array .int) true := ⟨10, RX9, TX9, 17, tyX9, az_cl9, rfl, by decide, az_inT1 92 rfl rfl, rfl, rfl, rfl⟩
set_option maxRecDepth 20000 in
theorem fl_X10_188 : az_FL RX10 188 9 11 (.array (.object "FamilyReducer$Row")) true := ⟨11, RX9, TX9, 17, tyX9, az_cl9, rfl, by decide, az_inT1 96 rfl rfl, rfl, rfl, rfl⟩
set_option maxRecDepth 20000 in
theorem fl_X10_129 : az_FL RX10 129 7 1 (.int) false := ⟨1, RX7, TX7, 2, tyX7, az_cl7, rfl, by decide, az_inT1 51 rfl rfl, rfl, rfl, rfl⟩
set_option maxRecDepth 20000 in
theorem ml_X10_195 : Cond.methodLink RX10 195 yX9_unbounded ∈ az_gw := az_inT4 114 rfl rfl
set_option maxRecDepth 20000 in
theorem fl_X9_18 : az_FL RX9 18 9 2 (.int) false := ⟨2, RX9, TX9, 17, tyX9, az_cl9, rfl, by decide, az_inT1 70 rfl rfl, rfl, rfl, rfl⟩
set_option maxRecDepth 20000 in
theorem ml_X9_88 : Cond.methodLink RX9 88 yX9_called ∈ az_gw := az_inT4 89 rfl rfl
set_option maxRecDepth 20000 in
theorem ml_X9_91 : Cond.methodLink RX9 91 yX9_agree ∈ az_gw := az_inT4 94 rfl rfl
set_option maxRecDepth 20000 in
theorem fl_X9_38 : az_FL RX9 38 9 8 (.array .boolean) true := ⟨8, RX9, TX9, 17, tyX9, az_cl9, rfl, by decide, az_inT1 84 rfl rfl, rfl, rfl, rfl⟩
set_option maxRecDepth 20000 in
theorem fl_X9_59 : az_FL RX9 59 9 14 (.array .int) true := ⟨14, RX9, TX9, 17, tyX9, az_cl9, rfl, by decide, az_inT1 105 rfl rfl, rfl, rfl, rfl⟩
set_option maxRecDepth 20000 in
theorem fl_X10_147 : az_FL RX10 147 9 6 (.array .int) true := ⟨6, RX9, TX9, 17, tyX9, az_cl9, rfl, by decide, az_inT1 80 rfl rfl, rfl, rfl, rfl⟩
set_option maxRecDepth 20000 in
theorem ml_X10_150 : Cond.methodLink RX10 150 yX7_arity ∈ az_gw := az_inT4 78 rfl rfl
set_option maxRecDepth 20000 in
theorem fl_X10_153 : az_FL RX10 153 9 7 (.array .boolean) true := ⟨7, RX9, TX9, 17, tyX9, az_cl9, rfl, by decide, az_inT1 83 rfl rfl, rfl, rfl, rfl⟩
set_option maxRecDepth 20000 in
theorem fl_X10_157 : az_FL RX10 157 9 8 (.array .boolean) true := ⟨8, RX9, TX9, 17, tyX9, az_cl9, rfl, by decide, az_inT1 85 rfl rfl, rfl, rfl, rfl⟩
set_option maxRecDepth 20000 in
theorem ml_X10_160 : Cond.methodLink RX10 160 yX9_equationsOf ∈ az_gw := az_inT4 79 rfl rfl
set_option maxRecDepth 20000 in
theorem ml_X10_163 : Cond.methodLink RX10 163 yX9_called ∈ az_gw := az_inT4 80 rfl rfl
set_option maxRecDepth 20000 in
theorem ml_X10_166 : Cond.methodLink RX10 166 yX9_calledAtLast ∈ az_gw := az_inT4 85 rfl rfl
set_option maxRecDepth 20000 in
theorem ml_X10_169 : Cond.methodLink RX10 169 yX9_firstParting ∈ az_gw := az_inT4 90 rfl rfl
set_option maxRecDepth 20000 in
theorem ml_X10_172 : Cond.methodLink RX10 172 yX9_goesBackwards ∈ az_gw := az_inT4 98 rfl rfl
set_option maxRecDepth 20000 in
theorem fl_X10_20 : az_FL RX10 20 10 3 (.int) false := ⟨3, RX10, TX10, 18, tyX10, az_cl10, rfl, by decide, az_inT3 3 rfl rfl, rfl, rfl, rfl⟩
set_option maxRecDepth 20000 in
theorem fl_X10_23 : az_FL RX10 23 10 4 (.int) false := ⟨4, RX10, TX10, 18, tyX10, az_cl10, rfl, by decide, az_inT3 4 rfl rfl, rfl, rfl, rfl⟩
set_option maxRecDepth 20000 in
theorem fl_X10_13 : az_FL RX10 13 10 1 (.int) false := ⟨1, RX10, TX10, 18, tyX10, az_cl10, rfl, by decide, az_inT3 1 rfl rfl, rfl, rfl, rfl⟩
set_option maxRecDepth 20000 in
theorem fl_X10_9 : az_FL RX10 9 10 0 (.array .int) true := ⟨0, RX10, TX10, 18, tyX10, az_cl10, rfl, by decide, az_inT3 0 rfl rfl, rfl, rfl, rfl⟩
set_option maxRecDepth 20000 in
theorem ml_X10_109 : Cond.methodLink RX10 109 yX10_putInt ∈ az_gw := az_inT3 63 rfl rfl
set_option maxRecDepth 20000 in
theorem ml_X0_3 : Cond.methodLink RX0 3 Lib.objectInit ∈ az_gw := az_inT2 41 rfl rfl
set_option maxRecDepth 20000 in
theorem ml_X1_3 : Cond.methodLink RX1 3 Lib.objectInit ∈ az_gw := az_inT2 81 rfl rfl
set_option maxRecDepth 20000 in
theorem ml_X3_3 : Cond.methodLink RX3 3 Lib.objectInit ∈ az_gw := az_inT2 227 rfl rfl
set_option maxRecDepth 20000 in
theorem ml_X2_3 : Cond.methodLink RX2 3 Lib.objectInit ∈ az_gw := az_inT1 209 rfl rfl
set_option maxRecDepth 20000 in
theorem fl_X2_9 : az_FL RX2 9 2 0 (.array .int) true := ⟨0, RX2, TX2, 4, tyX2, az_cl2, rfl, by decide, az_inT1 210 rfl rfl, rfl, rfl, rfl⟩
set_option maxRecDepth 20000 in
theorem fl_X2_15 : az_FL RX2 15 2 1 (.array .int) true := ⟨1, RX2, TX2, 4, tyX2, az_cl2, rfl, by decide, az_inT1 212 rfl rfl, rfl, rfl, rfl⟩
set_option maxRecDepth 20000 in
theorem fl_X2_18 : az_FL RX2 18 2 2 (.array .int) true := ⟨2, RX2, TX2, 4, tyX2, az_cl2, rfl, by decide, az_inT1 214 rfl rfl, rfl, rfl, rfl⟩
set_option maxRecDepth 20000 in
theorem fl_X2_21 : az_FL RX2 21 2 3 (.int) false := ⟨3, RX2, TX2, 4, tyX2, az_cl2, rfl, by decide, az_inT1 216 rfl rfl, rfl, rfl, rfl⟩
set_option maxRecDepth 20000 in
theorem ml_X4_3 : Cond.methodLink RX4 3 Lib.objectInit ∈ az_gw := az_inT1 203 rfl rfl
set_option maxRecDepth 20000 in
theorem fl_X4_9 : az_FL RX4 9 4 0 (.int) false := ⟨0, RX4, TX4, 15, tyX4, az_cl4, rfl, by decide, az_inT1 227 rfl rfl, rfl, rfl, rfl⟩
set_option maxRecDepth 20000 in
theorem fl_X4_15 : az_FL RX4 15 4 1 (.int) false := ⟨1, RX4, TX4, 15, tyX4, az_cl4, rfl, by decide, az_inT1 229 rfl rfl, rfl, rfl, rfl⟩
set_option maxRecDepth 20000 in
theorem fl_X4_18 : az_FL RX4 18 4 2 (.array .int) true := ⟨2, RX4, TX4, 15, tyX4, az_cl4, rfl, by decide, az_inT1 231 rfl rfl, rfl, rfl, rfl⟩
set_option maxRecDepth 20000 in
theorem fl_X4_22 : az_FL RX4 22 4 3 (.int) false := ⟨3, RX4, TX4, 15, tyX4, az_cl4, rfl, by decide, az_inT1 233 rfl rfl, rfl, rfl, rfl⟩
set_option maxRecDepth 20000 in
theorem fl_X4_25 : az_FL RX4 25 4 4 (.int) false := ⟨4, RX4, TX4, 15, tyX4, az_cl4, rfl, by decide, az_inT1 234 rfl rfl, rfl, rfl, rfl⟩
set_option maxRecDepth 20000 in
theorem fl_X4_28 : az_FL RX4 28 4 5 (.int) false := ⟨5, RX4, TX4, 15, tyX4, az_cl4, rfl, by decide, az_inT1 235 rfl rfl, rfl, rfl, rfl⟩
set_option maxRecDepth 20000 in
theorem cl_X4_31 : Cond.classLink RX4 31 RX2 ∈ az_gw := az_inT1 204 rfl rfl
theorem ml_X4_33 : ∀ G s, az_KK G s → va_Nw (.methodLinkNest RX4 33 yX2_init "FamilyReducer") s := fun _ _ h => h.2.2.1
set_option maxRecDepth 20000 in
theorem fl_X4_34 : az_FL RX4 34 4 6 (.object "FamilyReducer$Lexer") true := ⟨6, RX4, TX4, 15, tyX4, az_cl4, rfl, by decide, az_inT1 236 rfl rfl, rfl, rfl, rfl⟩
set_option maxRecDepth 20000 in
theorem fl_X4_38 : az_FL RX4 38 4 7 (.int) false := ⟨7, RX4, TX4, 15, tyX4, az_cl4, rfl, by decide, az_inT1 237 rfl rfl, rfl, rfl, rfl⟩
set_option maxRecDepth 20000 in
theorem fl_X4_41 : az_FL RX4 41 4 8 (.int) false := ⟨8, RX4, TX4, 15, tyX4, az_cl4, rfl, by decide, az_inT1 238 rfl rfl, rfl, rfl, rfl⟩
set_option maxRecDepth 20000 in
theorem fl_X4_44 : az_FL RX4 44 4 9 (.int) false := ⟨9, RX4, TX4, 15, tyX4, az_cl4, rfl, by decide, az_inT1 239 rfl rfl, rfl, rfl, rfl⟩
set_option maxRecDepth 20000 in
theorem fl_X4_47 : az_FL RX4 47 4 10 (.int) false := ⟨10, RX4, TX4, 15, tyX4, az_cl4, rfl, by decide, az_inT2 0 rfl rfl, rfl, rfl, rfl⟩
set_option maxRecDepth 20000 in
theorem fl_X4_50 : az_FL RX4 50 4 13 (.array .int) true := ⟨13, RX4, TX4, 15, tyX4, az_cl4, rfl, by decide, az_inT2 3 rfl rfl, rfl, rfl, rfl⟩
set_option maxRecDepth 20000 in
theorem fl_X4_53 : az_FL RX4 53 4 14 (.array .int) true := ⟨14, RX4, TX4, 15, tyX4, az_cl4, rfl, by decide, az_inT2 4 rfl rfl, rfl, rfl, rfl⟩
set_option maxRecDepth 20000 in
theorem fl_X4_56 : az_FL RX4 56 4 11 (.object "FamilyReducer$Told") false := ⟨11, RX4, TX4, 15, tyX4, az_cl4, rfl, by decide, az_inT2 1 rfl rfl, rfl, rfl, rfl⟩
set_option maxRecDepth 20000 in
theorem fl_X4_60 : az_FL RX4 60 4 12 (.object "FamilyReducer$Request") true := ⟨12, RX4, TX4, 15, tyX4, az_cl4, rfl, by decide, az_inT2 2 rfl rfl, rfl, rfl, rfl⟩
set_option maxRecDepth 20000 in
theorem ml_X7_3 : Cond.methodLink RX7 3 Lib.objectInit ∈ az_gw := az_inT1 35 rfl rfl
set_option maxRecDepth 20000 in
theorem ml_X5_3 : Cond.methodLink RX5 3 Lib.objectInit ∈ az_gw := az_inT2 95 rfl rfl
set_option maxRecDepth 20000 in
theorem cl_X5_9 : Cond.classLink RX5 9 RX7 ∈ az_gw := az_inT2 96 rfl rfl
set_option maxRecDepth 20000 in
theorem ml_X5_11 : Cond.methodLink RX5 11 yX7_init ∈ az_gw := az_inT2 97 rfl rfl
set_option maxRecDepth 20000 in
theorem fl_X5_14 : az_FL RX5 14 5 3 (.object "FamilyReducer$Row") true := ⟨3, RX5, TX5, 16, tyX5, az_cl5, rfl, by decide, az_inT2 102 rfl rfl, rfl, rfl, rfl⟩
set_option maxRecDepth 20000 in
theorem fl_X5_20 : az_FL RX5 20 5 4 (.boolean) false := ⟨4, RX5, TX5, 16, tyX5, az_cl5, rfl, by decide, az_inT2 105 rfl rfl, rfl, rfl, rfl⟩
set_option maxRecDepth 20000 in
theorem fl_X5_24 : az_FL RX5 24 5 5 (.int) false := ⟨5, RX5, TX5, 16, tyX5, az_cl5, rfl, by decide, az_inT2 107 rfl rfl, rfl, rfl, rfl⟩
set_option maxRecDepth 20000 in
theorem fl_X5_28 : az_FL RX5 28 5 6 (.int) false := ⟨6, RX5, TX5, 16, tyX5, az_cl5, rfl, by decide, az_inT2 109 rfl rfl, rfl, rfl, rfl⟩
set_option maxRecDepth 20000 in
theorem fl_X5_31 : az_FL RX5 31 5 7 (.int) false := ⟨7, RX5, TX5, 16, tyX5, az_cl5, rfl, by decide, az_inT2 111 rfl rfl, rfl, rfl, rfl⟩
set_option maxRecDepth 20000 in
theorem fl_X5_34 : az_FL RX5 34 5 8 (.int) false := ⟨8, RX5, TX5, 16, tyX5, az_cl5, rfl, by decide, az_inT2 113 rfl rfl, rfl, rfl, rfl⟩
set_option maxRecDepth 20000 in
theorem fl_X5_37 : az_FL RX5 37 5 9 (.int) false := ⟨9, RX5, TX5, 16, tyX5, az_cl5, rfl, by decide, az_inT2 114 rfl rfl, rfl, rfl, rfl⟩
set_option maxRecDepth 20000 in
theorem fl_X5_40 : az_FL RX5 40 5 10 (.object "FamilyReducer$Row") true := ⟨10, RX5, TX5, 16, tyX5, az_cl5, rfl, by decide, az_inT2 115 rfl rfl, rfl, rfl, rfl⟩
set_option maxRecDepth 20000 in
theorem fl_X5_43 : az_FL RX5 43 5 11 (.array (.object "FamilyReducer$Row")) true := ⟨11, RX5, TX5, 16, tyX5, az_cl5, rfl, by decide, az_inT2 116 rfl rfl, rfl, rfl, rfl⟩
set_option maxRecDepth 20000 in
theorem fl_X5_47 : az_FL RX5 47 5 12 (.array .int) true := ⟨12, RX5, TX5, 16, tyX5, az_cl5, rfl, by decide, az_inT2 117 rfl rfl, rfl, rfl, rfl⟩
set_option maxRecDepth 20000 in
theorem fl_X5_51 : az_FL RX5 51 5 13 (.array .int) true := ⟨13, RX5, TX5, 16, tyX5, az_cl5, rfl, by decide, az_inT2 118 rfl rfl, rfl, rfl, rfl⟩
set_option maxRecDepth 20000 in
theorem fl_X5_54 : az_FL RX5 54 5 14 (.array .int) true := ⟨14, RX5, TX5, 16, tyX5, az_cl5, rfl, by decide, az_inT2 119 rfl rfl, rfl, rfl, rfl⟩
set_option maxRecDepth 20000 in
theorem fl_X5_57 : az_FL RX5 57 5 15 (.array .int) true := ⟨15, RX5, TX5, 16, tyX5, az_cl5, rfl, by decide, az_inT2 120 rfl rfl, rfl, rfl, rfl⟩
set_option maxRecDepth 20000 in
theorem fl_X5_60 : az_FL RX5 60 5 0 (.object "FamilyReducer$Joiner") true := ⟨0, RX5, TX5, 16, tyX5, az_cl5, rfl, by decide, az_inT2 98 rfl rfl, rfl, rfl, rfl⟩
set_option maxRecDepth 20000 in
theorem fl_X5_64 : az_FL RX5 64 5 2 (.object "FamilyReducer$Told") false := ⟨2, RX5, TX5, 16, tyX5, az_cl5, rfl, by decide, az_inT2 100 rfl rfl, rfl, rfl, rfl⟩
set_option maxRecDepth 20000 in
theorem fl_X5_68 : az_FL RX5 68 5 1 (.object "FamilyReducer$Request") true := ⟨1, RX5, TX5, 16, tyX5, az_cl5, rfl, by decide, az_inT2 99 rfl rfl, rfl, rfl, rfl⟩
set_option maxRecDepth 20000 in
theorem ml_X6_3 : Cond.methodLink RX6 3 Lib.objectInit ∈ az_gw := az_inT1 154 rfl rfl
set_option maxRecDepth 20000 in
theorem fl_X6_9 : az_FL RX6 9 6 0 (.int) false := ⟨0, RX6, TX6, 8, tyX6, az_cl6, rfl, by decide, az_inT1 157 rfl rfl, rfl, rfl, rfl⟩
set_option maxRecDepth 20000 in
theorem fl_X6_15 : az_FL RX6 15 6 1 (.int) false := ⟨1, RX6, TX6, 8, tyX6, az_cl6, rfl, by decide, az_inT1 160 rfl rfl, rfl, rfl, rfl⟩
set_option maxRecDepth 20000 in
theorem fl_X6_18 : az_FL RX6 18 6 2 (.int) false := ⟨2, RX6, TX6, 8, tyX6, az_cl6, rfl, by decide, az_inT1 163 rfl rfl, rfl, rfl, rfl⟩
set_option maxRecDepth 20000 in
theorem cl_X6_21 : Cond.classLink RX6 21 RX7 ∈ az_gw := az_inT1 155 rfl rfl
set_option maxRecDepth 20000 in
theorem fl_X6_23 : az_FL RX6 23 6 3 (.array (.object "FamilyReducer$Row")) true := ⟨3, RX6, TX6, 8, tyX6, az_cl6, rfl, by decide, az_inT1 166 rfl rfl, rfl, rfl, rfl⟩
set_option maxRecDepth 20000 in
theorem fl_X6_27 : az_FL RX6 27 6 4 (.array (.object "FamilyReducer$Row")) true := ⟨4, RX6, TX6, 8, tyX6, az_cl6, rfl, by decide, az_inT1 169 rfl rfl, rfl, rfl, rfl⟩
set_option maxRecDepth 20000 in
theorem fl_X6_30 : az_FL RX6 30 6 5 (.array (.object "FamilyReducer$Row")) true := ⟨5, RX6, TX6, 8, tyX6, az_cl6, rfl, by decide, az_inT1 172 rfl rfl, rfl, rfl, rfl⟩
set_option maxRecDepth 20000 in
theorem fl_X6_33 : az_FL RX6 33 6 6 (.array (.object "FamilyReducer$Row")) true := ⟨6, RX6, TX6, 8, tyX6, az_cl6, rfl, by decide, az_inT1 175 rfl rfl, rfl, rfl, rfl⟩
set_option maxRecDepth 20000 in
theorem fl_X6_36 : az_FL RX6 36 6 7 (.array .int) true := ⟨7, RX6, TX6, 8, tyX6, az_cl6, rfl, by decide, az_inT1 178 rfl rfl, rfl, rfl, rfl⟩
set_option maxRecDepth 20000 in
theorem ml_X6_40 : Cond.methodLink RX6 40 yX7_init ∈ az_gw := az_inT1 156 rfl rfl
set_option maxRecDepth 20000 in
theorem ml_X8_3 : Cond.methodLink RX8 3 Lib.objectInit ∈ az_gw := az_inT2 161 rfl rfl
set_option maxRecDepth 20000 in
theorem fl_X8_9 : az_FL RX8 9 8 0 (.boolean) false := ⟨0, RX8, TX8, 16, tyX8, az_cl8, rfl, by decide, az_inT2 164 rfl rfl, rfl, rfl, rfl⟩
set_option maxRecDepth 20000 in
theorem fl_X8_15 : az_FL RX8 15 8 1 (.int) false := ⟨1, RX8, TX8, 16, tyX8, az_cl8, rfl, by decide, az_inT2 166 rfl rfl, rfl, rfl, rfl⟩
set_option maxRecDepth 20000 in
theorem fl_X8_19 : az_FL RX8 19 8 2 (.int) false := ⟨2, RX8, TX8, 16, tyX8, az_cl8, rfl, by decide, az_inT2 168 rfl rfl, rfl, rfl, rfl⟩
set_option maxRecDepth 20000 in
theorem fl_X8_22 : az_FL RX8 22 8 3 (.int) false := ⟨3, RX8, TX8, 16, tyX8, az_cl8, rfl, by decide, az_inT2 170 rfl rfl, rfl, rfl, rfl⟩
set_option maxRecDepth 20000 in
theorem fl_X8_25 : az_FL RX8 25 8 4 (.int) false := ⟨4, RX8, TX8, 16, tyX8, az_cl8, rfl, by decide, az_inT2 172 rfl rfl, rfl, rfl, rfl⟩
set_option maxRecDepth 20000 in
theorem fl_X8_28 : az_FL RX8 28 8 5 (.int) false := ⟨5, RX8, TX8, 16, tyX8, az_cl8, rfl, by decide, az_inT2 174 rfl rfl, rfl, rfl, rfl⟩
set_option maxRecDepth 20000 in
theorem fl_X8_31 : az_FL RX8 31 8 6 (.int) false := ⟨6, RX8, TX8, 16, tyX8, az_cl8, rfl, by decide, az_inT2 176 rfl rfl, rfl, rfl, rfl⟩
set_option maxRecDepth 20000 in
theorem fl_X8_34 : az_FL RX8 34 8 7 (.array .int) true := ⟨7, RX8, TX8, 16, tyX8, az_cl8, rfl, by decide, az_inT2 178 rfl rfl, rfl, rfl, rfl⟩
set_option maxRecDepth 20000 in
theorem cl_X8_38 : Cond.classLink RX8 38 RX7 ∈ az_gw := az_inT2 162 rfl rfl
set_option maxRecDepth 20000 in
theorem fl_X8_40 : az_FL RX8 40 8 8 (.array (.object "FamilyReducer$Row")) true := ⟨8, RX8, TX8, 16, tyX8, az_cl8, rfl, by decide, az_inT2 180 rfl rfl, rfl, rfl, rfl⟩
set_option maxRecDepth 20000 in
theorem fl_X8_44 : az_FL RX8 44 8 9 (.boolean) false := ⟨9, RX8, TX8, 16, tyX8, az_cl8, rfl, by decide, az_inT2 182 rfl rfl, rfl, rfl, rfl⟩
set_option maxRecDepth 20000 in
theorem fl_X8_47 : az_FL RX8 47 8 10 (.array .int) true := ⟨10, RX8, TX8, 16, tyX8, az_cl8, rfl, by decide, az_inT2 183 rfl rfl, rfl, rfl, rfl⟩
set_option maxRecDepth 20000 in
theorem fl_X8_50 : az_FL RX8 50 8 11 (.array .int) true := ⟨11, RX8, TX8, 16, tyX8, az_cl8, rfl, by decide, az_inT2 184 rfl rfl, rfl, rfl, rfl⟩
set_option maxRecDepth 20000 in
theorem fl_X8_53 : az_FL RX8 53 8 12 (.array (.object "FamilyReducer$Row")) true := ⟨12, RX8, TX8, 16, tyX8, az_cl8, rfl, by decide, az_inT2 185 rfl rfl, rfl, rfl, rfl⟩
set_option maxRecDepth 20000 in
theorem fl_X8_56 : az_FL RX8 56 8 13 (.array (.object "FamilyReducer$Row")) true := ⟨13, RX8, TX8, 16, tyX8, az_cl8, rfl, by decide, az_inT2 186 rfl rfl, rfl, rfl, rfl⟩
set_option maxRecDepth 20000 in
theorem fl_X8_59 : az_FL RX8 59 8 14 (.array (.object "FamilyReducer$Row")) true := ⟨14, RX8, TX8, 16, tyX8, az_cl8, rfl, by decide, az_inT2 187 rfl rfl, rfl, rfl, rfl⟩
set_option maxRecDepth 20000 in
theorem fl_X8_62 : az_FL RX8 62 8 15 (.array .int) true := ⟨15, RX8, TX8, 16, tyX8, az_cl8, rfl, by decide, az_inT2 188 rfl rfl, rfl, rfl, rfl⟩
set_option maxRecDepth 20000 in
theorem ml_X8_65 : Cond.methodLink RX8 65 yX7_init ∈ az_gw := az_inT2 163 rfl rfl
set_option maxRecDepth 20000 in
theorem ml_X9_3 : Cond.methodLink RX9 3 Lib.objectInit ∈ az_gw := az_inT1 28 rfl rfl
set_option maxRecDepth 20000 in
theorem fl_X9_25 : az_FL RX9 25 9 4 (.array .int) true := ⟨4, RX9, TX9, 17, tyX9, az_cl9, rfl, by decide, az_inT1 76 rfl rfl, rfl, rfl, rfl⟩
set_option maxRecDepth 20000 in
theorem fl_X9_31 : az_FL RX9 31 9 6 (.array .int) true := ⟨6, RX9, TX9, 17, tyX9, az_cl9, rfl, by decide, az_inT1 78 rfl rfl, rfl, rfl, rfl⟩
set_option maxRecDepth 20000 in
theorem fl_X9_34 : az_FL RX9 34 9 7 (.array .boolean) true := ⟨7, RX9, TX9, 17, tyX9, az_cl9, rfl, by decide, az_inT1 81 rfl rfl, rfl, rfl, rfl⟩
set_option maxRecDepth 20000 in
theorem cl_X9_47 : Cond.classLink RX9 47 RX7 ∈ az_gw := az_inT1 29 rfl rfl
set_option maxRecDepth 20000 in
theorem fl_X9_62 : az_FL RX9 62 9 15 (.array .int) true := ⟨15, RX9, TX9, 17, tyX9, az_cl9, rfl, by decide, az_inT1 108 rfl rfl, rfl, rfl, rfl⟩
set_option maxRecDepth 20000 in
theorem fl_X9_65 : az_FL RX9 65 9 16 (.array .int) true := ⟨16, RX9, TX9, 17, tyX9, az_cl9, rfl, by decide, az_inT1 111 rfl rfl, rfl, rfl, rfl⟩
set_option maxRecDepth 20000 in
theorem ml_X9_68 : Cond.methodLink RX9 68 yX7_init ∈ az_gw := az_inT1 32 rfl rfl
set_option maxRecDepth 20000 in
theorem ml_X10_1 : Cond.methodLink RX10 1 Lib.objectInit ∈ az_gw := az_inT1 20 rfl rfl
set_option maxRecDepth 20000 in
theorem cl_X10_26 : Cond.classLink RX10 26 RX9 ∈ az_gw := az_inT1 23 rfl rfl
set_option maxRecDepth 20000 in
theorem ml_X10_28 : Cond.methodLink RX10 28 yX9_init ∈ az_gw := az_inT1 25 rfl rfl
set_option maxRecDepth 20000 in
theorem fl_X10_33 : az_FL RX10 33 10 6 (.object "FamilyReducer$Told") false := ⟨6, RX10, TX10, 18, tyX10, az_cl10, rfl, by decide, az_inT3 6 rfl rfl, rfl, rfl, rfl⟩
set_option maxRecDepth 20000 in
theorem cl_X10_36 : Cond.classLink RX10 36 RX6 ∈ az_gw := az_inT1 149 rfl rfl
set_option maxRecDepth 20000 in
theorem ml_X10_38 : Cond.methodLink RX10 38 yX6_init ∈ az_gw := az_inT1 151 rfl rfl
set_option maxRecDepth 20000 in
theorem fl_X10_39 : az_FL RX10 39 10 7 (.object "FamilyReducer$Request") true := ⟨7, RX10, TX10, 18, tyX10, az_cl10, rfl, by decide, az_inT3 7 rfl rfl, rfl, rfl, rfl⟩
set_option maxRecDepth 20000 in
theorem cl_X10_43 : Cond.classLink RX10 43 RX4 ∈ az_gw := az_inT1 198 rfl rfl
set_option maxRecDepth 20000 in
theorem ml_X10_45 : Cond.methodLink RX10 45 yX4_init ∈ az_gw := az_inT1 200 rfl rfl
set_option maxRecDepth 20000 in
theorem fl_X10_48 : az_FL RX10 48 10 8 (.object "FamilyReducer$Reader") true := ⟨8, RX10, TX10, 18, tyX10, az_cl10, rfl, by decide, az_inT3 8 rfl rfl, rfl, rfl, rfl⟩
set_option maxRecDepth 20000 in
theorem cl_X10_52 : Cond.classLink RX10 52 RX0 ∈ az_gw := az_inT2 36 rfl rfl
theorem ml_X10_54 : ∀ G s, az_KK G s → va_Nw (.methodLinkNest RX10 54 yX0_init "FamilyReducer") s := fun _ _ h => h.2.2.2.1
set_option maxRecDepth 20000 in
theorem cl_X10_59 : Cond.classLink RX10 59 RX1 ∈ az_gw := az_inT2 76 rfl rfl
set_option maxRecDepth 20000 in
theorem ml_X10_61 : Cond.methodLink RX10 61 yX1_init ∈ az_gw := az_inT2 78 rfl rfl
set_option maxRecDepth 20000 in
theorem cl_X10_68 : Cond.classLink RX10 68 RX5 ∈ az_gw := az_inT2 90 rfl rfl
set_option maxRecDepth 20000 in
theorem ml_X10_70 : Cond.methodLink RX10 70 yX5_init ∈ az_gw := az_inT2 92 rfl rfl
set_option maxRecDepth 20000 in
theorem fl_X10_73 : az_FL RX10 73 10 11 (.object "FamilyReducer$Reducer") true := ⟨11, RX10, TX10, 18, tyX10, az_cl10, rfl, by decide, az_inT3 11 rfl rfl, rfl, rfl, rfl⟩
set_option maxRecDepth 20000 in
theorem cl_X10_77 : Cond.classLink RX10 77 RX7 ∈ az_gw := az_inT2 154 rfl rfl
set_option maxRecDepth 20000 in
theorem ml_X10_79 : Cond.methodLink RX10 79 yX7_init ∈ az_gw := az_inT2 155 rfl rfl
set_option maxRecDepth 20000 in
theorem fl_X10_82 : az_FL RX10 82 10 12 (.object "FamilyReducer$Row") true := ⟨12, RX10, TX10, 18, tyX10, az_cl10, rfl, by decide, az_inT3 12 rfl rfl, rfl, rfl, rfl⟩
set_option maxRecDepth 20000 in
theorem fl_X10_86 : az_FL RX10 86 10 13 (.object "FamilyReducer$Row") true := ⟨13, RX10, TX10, 18, tyX10, az_cl10, rfl, by decide, az_inT3 13 rfl rfl, rfl, rfl, rfl⟩
set_option maxRecDepth 20000 in
theorem fl_X10_89 : az_FL RX10 89 10 14 (.array .int) true := ⟨14, RX10, TX10, 18, tyX10, az_cl10, rfl, by decide, az_inT3 14 rfl rfl, rfl, rfl, rfl⟩
set_option maxRecDepth 20000 in
theorem fl_X10_92 : az_FL RX10 92 10 15 (.int) false := ⟨15, RX10, TX10, 18, tyX10, az_cl10, rfl, by decide, az_inT3 15 rfl rfl, rfl, rfl, rfl⟩
set_option maxRecDepth 20000 in
theorem cl_X10_95 : Cond.classLink RX10 95 RX8 ∈ az_gw := az_inT2 156 rfl rfl
set_option maxRecDepth 20000 in
theorem ml_X10_97 : Cond.methodLink RX10 97 yX8_init ∈ az_gw := az_inT2 158 rfl rfl
set_option maxRecDepth 20000 in
theorem fl_X10_98 : az_FL RX10 98 10 16 (.object "FamilyReducer$Solver") true := ⟨16, RX10, TX10, 18, tyX10, az_cl10, rfl, by decide, az_inT3 16 rfl rfl, rfl, rfl, rfl⟩
set_option maxRecDepth 20000 in
theorem cl_X10_102 : Cond.classLink RX10 102 RX3 ∈ az_gw := az_inT2 222 rfl rfl
theorem ml_X10_104 : ∀ G s, az_KK G s → va_Nw (.methodLinkNest RX10 104 yX3_init "FamilyReducer") s := fun _ _ h => h.2.2.2.2
set_option maxRecDepth 20000 in
theorem fl_X10_368 : az_FL RX10 368 4 0 (.int) false := ⟨0, RX4, TX4, 15, tyX4, az_cl4, rfl, by decide, az_inT1 228 rfl rfl, rfl, rfl, rfl⟩
set_option maxRecDepth 20000 in
theorem fl_X10_369 : az_FL RX10 369 4 1 (.int) false := ⟨1, RX4, TX4, 15, tyX4, az_cl4, rfl, by decide, az_inT1 230 rfl rfl, rfl, rfl, rfl⟩
set_option maxRecDepth 20000 in
theorem ml_X7_43 : Cond.methodLink RX7 43 yX7_kind ∈ az_gw := az_inT4 52 rfl rfl
set_option maxRecDepth 20000 in
theorem ml_X7_35 : Cond.methodLink RX7 35 yX7_end ∈ az_gw := az_inT4 53 rfl rfl
set_option maxRecDepth 20000 in
theorem fl_X1_68 : az_FL RX1 68 9 12 (.array (.object "FamilyReducer$Row")) true := ⟨12, RX9, TX9, 17, tyX9, az_cl9, rfl, by decide, az_inT1 99 rfl rfl, rfl, rfl, rfl⟩
set_option maxRecDepth 20000 in
theorem fl_X1_87 : az_FL RX1 87 7 0 (.array .int) true := ⟨0, RX7, TX7, 2, tyX7, az_cl7, rfl, by decide, az_inT1 43 rfl rfl, rfl, rfl, rfl⟩
set_option maxRecDepth 20000 in
theorem ml_X1_92 : Cond.methodLink RX1 92 yX7_kind ∈ az_gw := az_inT4 43 rfl rfl
set_option maxRecDepth 20000 in
theorem fl_X1_96 : az_FL RX1 96 7 1 (.int) false := ⟨1, RX7, TX7, 2, tyX7, az_cl7, rfl, by decide, az_inT1 52 rfl rfl, rfl, rfl, rfl⟩
set_option maxRecDepth 20000 in
theorem fl_X1_24 : az_FL RX1 24 9 9 (.array .int) true := ⟨9, RX9, TX9, 17, tyX9, az_cl9, rfl, by decide, az_inT1 87 rfl rfl, rfl, rfl, rfl⟩
set_option maxRecDepth 20000 in
theorem ml_X1_99 : Cond.methodLink RX1 99 yX9_equationsOf ∈ az_gw := az_inT4 44 rfl rfl
set_option maxRecDepth 20000 in
theorem fl_X1_102 : az_FL RX1 102 9 10 (.array .int) true := ⟨10, RX9, TX9, 17, tyX9, az_cl9, rfl, by decide, az_inT1 91 rfl rfl, rfl, rfl, rfl⟩
set_option maxRecDepth 20000 in
theorem ml_X1_105 : Cond.methodLink RX1 105 yX7_standsOutsideFamilies ∈ az_gw := az_inT4 48 rfl rfl
set_option maxRecDepth 20000 in
theorem fl_X1_71 : az_FL RX1 71 9 14 (.array .int) true := ⟨14, RX9, TX9, 17, tyX9, az_cl9, rfl, by decide, az_inT1 106 rfl rfl, rfl, rfl, rfl⟩
set_option maxRecDepth 20000 in
theorem fl_X1_74 : az_FL RX1 74 9 15 (.array .int) true := ⟨15, RX9, TX9, 17, tyX9, az_cl9, rfl, by decide, az_inT1 109 rfl rfl, rfl, rfl, rfl⟩
set_option maxRecDepth 20000 in
theorem fl_X1_77 : az_FL RX1 77 9 16 (.array .int) true := ⟨16, RX9, TX9, 17, tyX9, az_cl9, rfl, by decide, az_inT1 112 rfl rfl, rfl, rfl, rfl⟩
set_option maxRecDepth 20000 in
theorem fl_X1_19 : az_FL RX1 19 9 2 (.int) false := ⟨2, RX9, TX9, 17, tyX9, az_cl9, rfl, by decide, az_inT1 71 rfl rfl, rfl, rfl, rfl⟩
set_option maxRecDepth 20000 in
theorem ml_X1_80 : Cond.methodLink RX1 80 yX1_badAlone ∈ az_gw := az_inT4 39 rfl rfl
set_option maxRecDepth 20000 in
theorem ml_X1_84 : Cond.methodLink RX1 84 yX1_badTogether ∈ az_gw := az_inT4 54 rfl rfl
set_option maxRecDepth 20000 in
theorem ml_X1_64 : Cond.methodLink RX1 64 yX1_meetLefts ∈ az_gw := az_inT3 230 rfl rfl
set_option maxRecDepth 20000 in
theorem ml_X1_28 : Cond.methodLink RX1 28 yX1_rightsAgree ∈ az_gw := az_inT3 226 rfl rfl
set_option maxRecDepth 20000 in
theorem fl_X1_32 : az_FL RX1 32 9 13 (.array .boolean) true := ⟨13, RX9, TX9, 17, tyX9, az_cl9, rfl, by decide, az_inT1 104 rfl rfl, rfl, rfl, rfl⟩
set_option maxRecDepth 20000 in
theorem fl_X1_36 : az_FL RX1 36 9 1 (.int) false := ⟨1, RX9, TX9, 17, tyX9, az_cl9, rfl, by decide, az_inT1 68 rfl rfl, rfl, rfl, rfl⟩
set_option maxRecDepth 20000 in
theorem ml_X1_39 : Cond.methodLink RX1 39 yX1_judgeBackwards ∈ az_gw := az_inT4 35 rfl rfl
set_option maxRecDepth 20000 in
theorem ml_X2_58 : Cond.methodLink RX2 58 yX2_isLower ∈ az_gw := az_inT3 97 rfl rfl
set_option maxRecDepth 20000 in
theorem ml_X2_31 : Cond.methodLink RX2 31 yX2_isLetter ∈ az_gw := az_inT3 94 rfl rfl
set_option maxRecDepth 20000 in
theorem ml_X2_25 : Cond.methodLink RX2 25 Lib.Math.min.name ∈ az_gw := az_inT3 91 rfl rfl
set_option maxRecDepth 20000 in
theorem ml_X2_35 : Cond.methodLink RX2 35 yX2_endOfLetters ∈ az_gw := az_inT3 100 rfl rfl
set_option maxRecDepth 20000 in
theorem ml_X2_39 : Cond.methodLink RX2 39 yX2_kindOfLetters ∈ az_gw := az_inT3 103 rfl rfl
set_option maxRecDepth 20000 in
theorem ml_X2_42 : Cond.methodLink RX2 42 yX2_valueOfLetters ∈ az_gw := az_inT3 106 rfl rfl
set_option maxRecDepth 20000 in
theorem ml_X2_45 : Cond.methodLink RX2 45 yX2_add ∈ az_gw := az_inT3 109 rfl rfl
set_option maxRecDepth 20000 in
theorem ml_X2_49 : Cond.methodLink RX2 49 yX2_isDigit ∈ az_gw := az_inT3 113 rfl rfl
set_option maxRecDepth 20000 in
theorem ml_X2_52 : Cond.methodLink RX2 52 yX2_isSign ∈ az_gw := az_inT3 116 rfl rfl
set_option maxRecDepth 20000 in
theorem ml_X2_55 : Cond.methodLink RX2 55 Lib.Math.max.name ∈ az_gw := az_inT3 119 rfl rfl
set_option maxRecDepth 20000 in
theorem fl_X4_217 : az_FL RX4 217 2 3 (.int) false := ⟨3, RX2, TX2, 4, tyX2, az_cl2, rfl, by decide, az_inT1 217 rfl rfl, rfl, rfl, rfl⟩
set_option maxRecDepth 20000 in
theorem fl_X4_220 : az_FL RX4 220 2 0 (.array .int) true := ⟨0, RX2, TX2, 4, tyX2, az_cl2, rfl, by decide, az_inT1 211 rfl rfl, rfl, rfl, rfl⟩
set_option maxRecDepth 20000 in
theorem fl_X4_223 : az_FL RX4 223 2 1 (.array .int) true := ⟨1, RX2, TX2, 4, tyX2, az_cl2, rfl, by decide, az_inT1 213 rfl rfl, rfl, rfl, rfl⟩
set_option maxRecDepth 20000 in
theorem fl_X4_226 : az_FL RX4 226 2 2 (.array .int) true := ⟨2, RX2, TX2, 4, tyX2, az_cl2, rfl, by decide, az_inT1 215 rfl rfl, rfl, rfl, rfl⟩
set_option maxRecDepth 20000 in
theorem ml_X4_123 : Cond.methodLink RX4 123 yX2_scan ∈ az_gw := az_inT3 87 rfl rfl
set_option maxRecDepth 20000 in
theorem ml_X4_127 : Cond.methodLink RX4 127 yX4_next ∈ az_gw := az_inT3 120 rfl rfl
set_option maxRecDepth 20000 in
theorem ml_X4_84 : Cond.methodLink RX4 84 yX4_fail ∈ az_gw := az_inT3 132 rfl rfl
set_option maxRecDepth 20000 in
theorem ct_X4_87 : Cond.constant RX4 87 307058 ∈ az_gw := az_inT3 152 rfl rfl
set_option maxRecDepth 20000 in
theorem ct_X4_88 : Cond.constant RX4 88 49733248 ∈ az_gw := az_inT3 153 rfl rfl
set_option maxRecDepth 20000 in
theorem ct_X4_134 : Cond.constant RX4 134 40187 ∈ az_gw := az_inT3 140 rfl rfl
set_option maxRecDepth 20000 in
theorem ct_X4_109 : Cond.constant RX4 109 3913421 ∈ az_gw := az_inT3 191 rfl rfl
set_option maxRecDepth 20000 in
theorem ct_X4_116 : Cond.constant RX4 116 453836 ∈ az_gw := az_inT3 192 rfl rfl
set_option maxRecDepth 20000 in
theorem fl_X4_169 : az_FL RX4 169 7 1 (.int) false := ⟨1, RX7, TX7, 2, tyX7, az_cl7, rfl, by decide, az_inT1 55 rfl rfl, rfl, rfl, rfl⟩
set_option maxRecDepth 20000 in
theorem fl_X4_178 : az_FL RX4 178 7 0 (.array .int) true := ⟨0, RX7, TX7, 2, tyX7, az_cl7, rfl, by decide, az_inT1 46 rfl rfl, rfl, rfl, rfl⟩
set_option maxRecDepth 20000 in
theorem ml_X4_206 : Cond.methodLink RX4 206 yX6_unknownOf ∈ az_gw := az_inT3 178 rfl rfl
set_option maxRecDepth 20000 in
theorem fl_X4_209 : az_FL RX4 209 6 2 (.int) false := ⟨2, RX6, TX6, 8, tyX6, az_cl6, rfl, by decide, az_inT1 165 rfl rfl, rfl, rfl, rfl⟩
set_option maxRecDepth 20000 in
theorem fl_X4_212 : az_FL RX4 212 6 7 (.array .int) true := ⟨7, RX6, TX6, 8, tyX6, az_cl6, rfl, by decide, az_inT1 180 rfl rfl, rfl, rfl, rfl⟩
set_option maxRecDepth 20000 in
theorem ml_X4_213 : Cond.methodLink RX4 213 yX7_make ∈ az_gw := az_inT3 182 rfl rfl
set_option maxRecDepth 20000 in
theorem ml_X4_203 : Cond.methodLink RX4 203 yX7_add ∈ az_gw := az_inT3 183 rfl rfl
set_option maxRecDepth 20000 in
theorem ml_X4_190 : Cond.methodLink RX4 190 yX4_readUnknown ∈ az_gw := az_inT3 174 rfl rfl
set_option maxRecDepth 20000 in
theorem ml_X4_193 : Cond.methodLink RX4 193 yX4_isVariable ∈ az_gw := az_inT3 187 rfl rfl
set_option maxRecDepth 20000 in
theorem ml_X4_130 : Cond.methodLink RX4 130 yX9_codeOf ∈ az_gw := az_inT3 136 rfl rfl
set_option maxRecDepth 20000 in
theorem ml_X4_197 : Cond.methodLink RX4 197 yX4_indexOfWord ∈ az_gw := az_inT3 193 rfl rfl
set_option maxRecDepth 20000 in
theorem ml_X4_200 : Cond.methodLink RX4 200 yX7_kind ∈ az_gw := az_inT3 197 rfl rfl
set_option maxRecDepth 20000 in
theorem ml_X4_174 : Cond.methodLink RX4 174 yX4_readNode ∈ az_gw := az_inT3 170 rfl rfl
set_option maxRecDepth 20000 in
theorem ml_X4_181 : Cond.methodLink RX4 181 yX7_arity ∈ az_gw := az_inT3 200 rfl rfl
set_option maxRecDepth 20000 in
theorem ml_X4_184 : Cond.methodLink RX4 184 yX4_endsTerm ∈ az_gw := az_inT3 203 rfl rfl
set_option maxRecDepth 20000 in
theorem ml_X4_187 : Cond.methodLink RX4 187 yX4_closeFrames ∈ az_gw := az_inT3 207 rfl rfl
set_option maxRecDepth 20000 in
theorem ml_X4_102 : Cond.methodLink RX4 102 yX4_readSide ∈ az_gw := az_inT3 166 rfl rfl
set_option maxRecDepth 20000 in
theorem ml_X4_98 : Cond.methodLink RX4 98 yX4_forgetWords ∈ az_gw := az_inT3 158 rfl rfl
set_option maxRecDepth 20000 in
theorem fl_X4_143 : az_FL RX4 143 9 11 (.array (.object "FamilyReducer$Row")) true := ⟨11, RX9, TX9, 17, tyX9, az_cl9, rfl, by decide, az_inT1 97 rfl rfl, rfl, rfl, rfl⟩
set_option maxRecDepth 20000 in
theorem fl_X4_147 : az_FL RX4 147 9 12 (.array (.object "FamilyReducer$Row")) true := ⟨12, RX9, TX9, 17, tyX9, az_cl9, rfl, by decide, az_inT1 101 rfl rfl, rfl, rfl, rfl⟩
set_option maxRecDepth 20000 in
theorem ml_X4_150 : Cond.methodLink RX4 150 yX4_readBoth ∈ az_gw := az_inT3 162 rfl rfl
set_option maxRecDepth 20000 in
theorem ml_X4_154 : Cond.methodLink RX4 154 yX9_addEquation ∈ az_gw := az_inT3 211 rfl rfl
set_option maxRecDepth 20000 in
theorem ml_X9_78 : Cond.methodLink RX9 78 yX7_make ∈ az_gw := az_inT3 145 rfl rfl
set_option maxRecDepth 20000 in
theorem ml_X4_73 : Cond.methodLink RX4 73 yX4_isWord ∈ az_gw := az_inT3 124 rfl rfl
set_option maxRecDepth 20000 in
theorem ml_X4_135 : Cond.methodLink RX4 135 yX9_addCon ∈ az_gw := az_inT3 141 rfl rfl
set_option maxRecDepth 20000 in
theorem ml_X4_139 : Cond.methodLink RX4 139 yX9_addFam ∈ az_gw := az_inT3 148 rfl rfl
set_option maxRecDepth 20000 in
theorem ml_X4_64 : Cond.methodLink RX4 64 yX9_clear ∈ az_gw := az_inT3 79 rfl rfl
set_option maxRecDepth 20000 in
theorem ml_X4_69 : Cond.methodLink RX4 69 yX4_begin ∈ az_gw := az_inT3 83 rfl rfl
set_option maxRecDepth 20000 in
theorem fl_X4_77 : az_FL RX4 77 9 0 (.int) false := ⟨0, RX9, TX9, 17, tyX9, az_cl9, rfl, by decide, az_inT1 64 rfl rfl, rfl, rfl, rfl⟩
set_option maxRecDepth 20000 in
theorem ml_X4_80 : Cond.methodLink RX4 80 yX4_readHead ∈ az_gw := az_inT3 128 rfl rfl
set_option maxRecDepth 20000 in
theorem fl_X4_89 : az_FL RX4 89 9 1 (.int) false := ⟨1, RX9, TX9, 17, tyX9, az_cl9, rfl, by decide, az_inT1 67 rfl rfl, rfl, rfl, rfl⟩
set_option maxRecDepth 20000 in
theorem fl_X4_92 : az_FL RX4 92 9 2 (.int) false := ⟨2, RX9, TX9, 17, tyX9, az_cl9, rfl, by decide, az_inT1 72 rfl rfl, rfl, rfl, rfl⟩
set_option maxRecDepth 20000 in
theorem ml_X4_95 : Cond.methodLink RX4 95 yX4_readEquation ∈ az_gw := az_inT3 154 rfl rfl
set_option maxRecDepth 20000 in
theorem ml_X10_116 : Cond.methodLink RX10 116 yX4_readTold ∈ az_gw := az_inT3 75 rfl rfl
set_option maxRecDepth 20000 in
theorem ml_X10_120 : Cond.methodLink RX10 120 yX10_takeTape ∈ az_gw := az_inT3 218 rfl rfl
set_option maxRecDepth 20000 in
theorem ml_X10_124 : Cond.methodLink RX10 124 yX1_judgeAll ∈ az_gw := az_inT3 222 rfl rfl
set_option maxRecDepth 20000 in
theorem fl_X10_128 : az_FL RX10 128 5 2 (.object "FamilyReducer$Told") false := ⟨2, RX5, TX5, 16, tyX5, az_cl5, rfl, by decide, az_inT2 101 rfl rfl, rfl, rfl, rfl⟩
set_option maxRecDepth 20000 in
theorem ml_X10_132 : Cond.methodLink RX10 132 yX8_forget ∈ az_gw := az_inT4 58 rfl rfl
set_option maxRecDepth 20000 in
theorem fl_X10_141 : az_FL RX10 141 9 0 (.int) false := ⟨0, RX9, TX9, 17, tyX9, az_cl9, rfl, by decide, az_inT1 65 rfl rfl, rfl, rfl, rfl⟩
set_option maxRecDepth 20000 in
theorem fl_X5_91 : az_FL RX5 91 9 9 (.array .int) true := ⟨9, RX9, TX9, 17, tyX9, az_cl9, rfl, by decide, az_inT1 88 rfl rfl, rfl, rfl, rfl⟩
set_option maxRecDepth 20000 in
theorem fl_X5_94 : az_FL RX5 94 9 7 (.array .boolean) true := ⟨7, RX9, TX9, 17, tyX9, az_cl9, rfl, by decide, az_inT1 82 rfl rfl, rfl, rfl, rfl⟩
set_option maxRecDepth 20000 in
theorem ml_X5_98 : Cond.methodLink RX5 98 yX9_agree ∈ az_gw := az_inT4 237 rfl rfl
set_option maxRecDepth 20000 in
theorem ml_X5_102 : Cond.methodLink RX5 102 yX0_clear ∈ az_gw := az_inT4 238 rfl rfl
set_option maxRecDepth 20000 in
theorem fl_X5_72 : az_FL RX5 72 9 11 (.array (.object "FamilyReducer$Row")) true := ⟨11, RX9, TX9, 17, tyX9, az_cl9, rfl, by decide, az_inT1 94 rfl rfl, rfl, rfl, rfl⟩
set_option maxRecDepth 20000 in
theorem ml_X5_107 : Cond.methodLink RX5 107 yX0_lay ∈ az_gw := az_inT4 239 rfl rfl
set_option maxRecDepth 20000 in
theorem ml_X5_111 : Cond.methodLink RX5 111 yX0_join ∈ az_gw := az_inT5 0 rfl rfl
set_option maxRecDepth 20000 in
theorem fl_X5_77 : az_FL RX5 77 7 1 (.int) false := ⟨1, RX7, TX7, 2, tyX7, az_cl7, rfl, by decide, az_inT1 49 rfl rfl, rfl, rfl, rfl⟩
set_option maxRecDepth 20000 in
theorem fl_X5_80 : az_FL RX5 80 7 0 (.array .int) true := ⟨0, RX7, TX7, 2, tyX7, az_cl7, rfl, by decide, az_inT1 40 rfl rfl, rfl, rfl, rfl⟩
set_option maxRecDepth 20000 in
theorem ml_X5_83 : Cond.methodLink RX5 83 yX7_samePart ∈ az_gw := az_inT4 231 rfl rfl
set_option maxRecDepth 20000 in
theorem ml_X5_87 : Cond.methodLink RX5 87 yX7_end ∈ az_gw := az_inT4 232 rfl rfl
set_option maxRecDepth 20000 in
theorem fl_X5_125 : az_FL RX5 125 9 2 (.int) false := ⟨2, RX9, TX9, 17, tyX9, az_cl9, rfl, by decide, az_inT1 74 rfl rfl, rfl, rfl, rfl⟩
set_option maxRecDepth 20000 in
theorem fl_X5_115 : az_FL RX5 115 9 6 (.array .int) true := ⟨6, RX9, TX9, 17, tyX9, az_cl9, rfl, by decide, az_inT1 79 rfl rfl, rfl, rfl, rfl⟩
set_option maxRecDepth 20000 in
theorem ml_X5_118 : Cond.methodLink RX5 118 yX5_fits ∈ az_gw := az_inT4 227 rfl rfl
set_option maxRecDepth 20000 in
theorem ml_X5_121 : Cond.methodLink RX5 121 yX5_firstStill ∈ az_gw := az_inT4 233 rfl rfl
set_option maxRecDepth 20000 in
theorem fl_X10_258 : az_FL RX10 258 7 0 (.array .int) true := ⟨0, RX7, TX7, 2, tyX7, az_cl7, rfl, by decide, az_inT1 47 rfl rfl, rfl, rfl, rfl⟩
set_option maxRecDepth 20000 in
theorem ml_X10_261 : Cond.methodLink RX10 261 yX7_kind ∈ az_gw := az_inT5 5 rfl rfl
set_option maxRecDepth 20000 in
theorem ml_X10_264 : Cond.methodLink RX10 264 yX10_termVariable ∈ az_gw := az_inT5 6 rfl rfl
set_option maxRecDepth 20000 in
theorem ml_X10_267 : Cond.methodLink RX10 267 yX7_number ∈ az_gw := az_inT5 10 rfl rfl
set_option maxRecDepth 20000 in
theorem ml_X10_270 : Cond.methodLink RX10 270 yX7_end ∈ az_gw := az_inT5 11 rfl rfl
set_option maxRecDepth 20000 in
theorem ml_X10_273 : Cond.methodLink RX10 273 yX5_firingAt ∈ az_gw := az_inT5 12 rfl rfl
set_option maxRecDepth 20000 in
theorem ml_X10_277 : Cond.methodLink RX10 277 yX7_depth ∈ az_gw := az_inT4 210 rfl rfl
set_option maxRecDepth 20000 in
theorem ml_X10_370 : Cond.methodLink RX10 370 Lib.Math.max.name ∈ az_gw := az_inT4 214 rfl rfl
set_option maxRecDepth 20000 in
theorem ml_X5_128 : Cond.methodLink RX5 128 yX5_firingAt ∈ az_gw := az_inT4 223 rfl rfl
set_option maxRecDepth 20000 in
theorem ml_X10_247 : Cond.methodLink RX10 247 yX10_deepest ∈ az_gw := az_inT4 206 rfl rfl
set_option maxRecDepth 20000 in
theorem ml_X10_251 : Cond.methodLink RX10 251 yX7_families ∈ az_gw := az_inT4 215 rfl rfl
set_option maxRecDepth 20000 in
theorem ml_X10_254 : Cond.methodLink RX10 254 yX5_firingPlaces ∈ az_gw := az_inT4 219 rfl rfl
set_option maxRecDepth 20000 in
theorem fl_X10_318 : az_FL RX10 318 3 1 (.array .int) false := ⟨1, RX3, TX3, 3, tyX3, az_cl3, rfl, by decide, az_inT2 231 rfl rfl, rfl, rfl, rfl⟩
set_option maxRecDepth 20000 in
theorem ml_X3_52 : Cond.methodLink RX3 52 yX7_kind ∈ az_gw := az_inT5 87 rfl rfl
set_option maxRecDepth 20000 in
theorem ml_X3_55 : Cond.methodLink RX3 55 yX7_number ∈ az_gw := az_inT5 88 rfl rfl
set_option maxRecDepth 20000 in
theorem fl_X3_34 : az_FL RX3 34 7 1 (.int) false := ⟨1, RX7, TX7, 2, tyX7, az_cl7, rfl, by decide, az_inT1 50 rfl rfl, rfl, rfl, rfl⟩
set_option maxRecDepth 20000 in
theorem fl_X3_37 : az_FL RX3 37 7 0 (.array .int) true := ⟨0, RX7, TX7, 2, tyX7, az_cl7, rfl, by decide, az_inT1 42 rfl rfl, rfl, rfl, rfl⟩
set_option maxRecDepth 20000 in
theorem ml_X3_40 : Cond.methodLink RX3 40 yX3_putCode ∈ az_gw := az_inT5 83 rfl rfl
set_option maxRecDepth 20000 in
theorem fl_X10_313 : az_FL RX10 313 8 7 (.array .int) true := ⟨7, RX8, TX8, 16, tyX8, az_cl8, rfl, by decide, az_inT2 179 rfl rfl, rfl, rfl, rfl⟩
set_option maxRecDepth 20000 in
theorem ml_X10_314 : Cond.methodLink RX10 314 yX3_putRow ∈ az_gw := az_inT5 79 rfl rfl
set_option maxRecDepth 20000 in
theorem fl_X5_141 : az_FL RX5 141 6 0 (.int) false := ⟨0, RX6, TX6, 8, tyX6, az_cl6, rfl, by decide, az_inT1 159 rfl rfl, rfl, rfl, rfl⟩
set_option maxRecDepth 20000 in
theorem fl_X5_146 : az_FL RX5 146 6 3 (.array (.object "FamilyReducer$Row")) true := ⟨3, RX6, TX6, 8, tyX6, az_cl6, rfl, by decide, az_inT1 167 rfl rfl, rfl, rfl, rfl⟩
set_option maxRecDepth 20000 in
theorem ml_X5_149 : Cond.methodLink RX5 149 yX7_arity ∈ az_gw := az_inT5 38 rfl rfl
set_option maxRecDepth 20000 in
theorem ml_X5_132 : Cond.methodLink RX5 132 yX5_orderPlaces ∈ az_gw := az_inT5 34 rfl rfl
set_option maxRecDepth 20000 in
theorem ml_X5_135 : Cond.methodLink RX5 135 yX7_kind ∈ az_gw := az_inT5 39 rfl rfl
set_option maxRecDepth 20000 in
theorem ml_X5_138 : Cond.methodLink RX5 138 yX5_givenAt ∈ az_gw := az_inT5 40 rfl rfl
set_option maxRecDepth 20000 in
theorem ml_X7_25 : Cond.methodLink RX7 25 arraycopyName ∈ az_gw := az_inT4 200 rfl rfl
set_option maxRecDepth 20000 in
theorem ml_X7_31 : Cond.methodLink RX7 31 yX7_addPart ∈ az_gw := az_inT4 196 rfl rfl
set_option maxRecDepth 20000 in
theorem fl_X5_152 : az_FL RX5 152 6 4 (.array (.object "FamilyReducer$Row")) true := ⟨4, RX6, TX6, 8, tyX6, az_cl6, rfl, by decide, az_inT1 170 rfl rfl, rfl, rfl, rfl⟩
set_option maxRecDepth 20000 in
theorem fl_X5_155 : az_FL RX5 155 9 12 (.array (.object "FamilyReducer$Row")) true := ⟨12, RX9, TX9, 17, tyX9, az_cl9, rfl, by decide, az_inT1 102 rfl rfl, rfl, rfl, rfl⟩
set_option maxRecDepth 20000 in
theorem ml_X5_158 : Cond.methodLink RX5 158 yX7_addPart ∈ az_gw := az_inT5 48 rfl rfl
set_option maxRecDepth 20000 in
theorem ml_X5_162 : Cond.methodLink RX5 162 yX7_add ∈ az_gw := az_inT5 49 rfl rfl
set_option maxRecDepth 20000 in
theorem ml_X5_166 : Cond.methodLink RX5 166 yX7_take ∈ az_gw := az_inT5 50 rfl rfl
set_option maxRecDepth 20000 in
theorem ml_X7_39 : Cond.methodLink RX7 39 yX7_samePart ∈ az_gw := az_inT5 65 rfl rfl
set_option maxRecDepth 20000 in
theorem ml_X5_170 : Cond.methodLink RX5 170 yX5_findPlace ∈ az_gw := az_inT5 59 rfl rfl
set_option maxRecDepth 20000 in
theorem ml_X5_173 : Cond.methodLink RX5 173 yX5_rewrite ∈ az_gw := az_inT5 60 rfl rfl
set_option maxRecDepth 20000 in
theorem ml_X5_177 : Cond.methodLink RX5 177 yX7_same ∈ az_gw := az_inT5 61 rfl rfl
set_option maxRecDepth 20000 in
theorem fl_X10_287 : az_FL RX10 287 5 3 (.object "FamilyReducer$Row") true := ⟨3, RX5, TX5, 16, tyX5, az_cl5, rfl, by decide, az_inT2 104 rfl rfl, rfl, rfl, rfl⟩
set_option maxRecDepth 20000 in
theorem ml_X10_234 : Cond.methodLink RX10 234 yX7_take ∈ az_gw := az_inT4 192 rfl rfl
set_option maxRecDepth 20000 in
theorem ml_X10_300 : Cond.methodLink RX10 300 yX5_reduceAll ∈ az_gw := az_inT5 55 rfl rfl
set_option maxRecDepth 20000 in
theorem fl_X10_303 : az_FL RX10 303 5 7 (.int) false := ⟨7, RX5, TX5, 16, tyX5, az_cl5, rfl, by decide, az_inT2 112 rfl rfl, rfl, rfl, rfl⟩
set_option maxRecDepth 20000 in
theorem fl_X10_306 : az_FL RX10 306 5 6 (.int) false := ⟨6, RX5, TX5, 16, tyX5, az_cl5, rfl, by decide, az_inT2 110 rfl rfl, rfl, rfl, rfl⟩
set_option maxRecDepth 20000 in
theorem ml_X10_290 : Cond.methodLink RX10 290 yX5_findPlace ∈ az_gw := az_inT5 30 rfl rfl
set_option maxRecDepth 20000 in
theorem ml_X10_293 : Cond.methodLink RX10 293 yX5_rewrite ∈ az_gw := az_inT5 44 rfl rfl
set_option maxRecDepth 20000 in
theorem fl_X10_297 : az_FL RX10 297 5 5 (.int) false := ⟨5, RX5, TX5, 16, tyX5, az_cl5, rfl, by decide, az_inT2 108 rfl rfl, rfl, rfl, rfl⟩
set_option maxRecDepth 20000 in
theorem ml_X10_280 : Cond.methodLink RX10 280 yX5_reason ∈ az_gw := az_inT5 17 rfl rfl
set_option maxRecDepth 20000 in
theorem ml_X10_284 : Cond.methodLink RX10 284 yX5_firstStill ∈ az_gw := az_inT5 25 rfl rfl
set_option maxRecDepth 20000 in
theorem ml_X10_230 : Cond.methodLink RX10 230 yX4_readWhole ∈ az_gw := az_inT4 188 rfl rfl
set_option maxRecDepth 20000 in
theorem fl_X10_238 : az_FL RX10 238 4 2 (.array .int) true := ⟨2, RX4, TX4, 15, tyX4, az_cl4, rfl, by decide, az_inT1 232 rfl rfl, rfl, rfl, rfl⟩
set_option maxRecDepth 20000 in
theorem ml_X10_241 : Cond.methodLink RX10 241 arraycopyName ∈ az_gw := az_inT4 201 rfl rfl
set_option maxRecDepth 20000 in
theorem fl_X8_138 : az_FL RX8 138 7 1 (.int) false := ⟨1, RX7, TX7, 2, tyX7, az_cl7, rfl, by decide, az_inT1 54 rfl rfl, rfl, rfl, rfl⟩
set_option maxRecDepth 20000 in
theorem ct_X8_156 : Cond.constant RX8 156 1000000 ∈ az_gw := az_inT5 131 rfl rfl
set_option maxRecDepth 20000 in
theorem fl_X8_116 : az_FL RX8 116 7 0 (.array .int) true := ⟨0, RX7, TX7, 2, tyX7, az_cl7, rfl, by decide, az_inT1 45 rfl rfl, rfl, rfl, rfl⟩
set_option maxRecDepth 20000 in
theorem ml_X8_129 : Cond.methodLink RX8 129 yX7_number ∈ az_gw := az_inT5 132 rfl rfl
set_option maxRecDepth 20000 in
theorem ml_X8_119 : Cond.methodLink RX8 119 yX7_kind ∈ az_gw := az_inT5 133 rfl rfl
set_option maxRecDepth 20000 in
theorem ml_X8_157 : Cond.methodLink RX8 157 yX8_isBound ∈ az_gw := az_inT5 134 rfl rfl
set_option maxRecDepth 20000 in
theorem ml_X8_160 : Cond.methodLink RX8 160 yX7_add ∈ az_gw := az_inT5 138 rfl rfl
set_option maxRecDepth 20000 in
theorem fl_X10_352 : az_FL RX10 352 8 5 (.int) false := ⟨5, RX8, TX8, 16, tyX8, az_cl8, rfl, by decide, az_inT2 175 rfl rfl, rfl, rfl, rfl⟩
set_option maxRecDepth 20000 in
theorem ml_X10_358 : Cond.methodLink RX10 358 yX8_isBound ∈ az_gw := az_inT5 174 rfl rfl
set_option maxRecDepth 20000 in
theorem fl_X10_361 : az_FL RX10 361 8 8 (.array (.object "FamilyReducer$Row")) true := ⟨8, RX8, TX8, 16, tyX8, az_cl8, rfl, by decide, az_inT2 181 rfl rfl, rfl, rfl, rfl⟩
set_option maxRecDepth 20000 in
theorem ml_X10_364 : Cond.methodLink RX10 364 yX8_expand ∈ az_gw := az_inT5 175 rfl rfl
set_option maxRecDepth 20000 in
theorem fl_X4_157 : az_FL RX4 157 6 3 (.array (.object "FamilyReducer$Row")) true := ⟨3, RX6, TX6, 8, tyX6, az_cl6, rfl, by decide, az_inT1 168 rfl rfl, rfl, rfl, rfl⟩
set_option maxRecDepth 20000 in
theorem fl_X4_160 : az_FL RX4 160 6 4 (.array (.object "FamilyReducer$Row")) true := ⟨4, RX6, TX6, 8, tyX6, az_cl6, rfl, by decide, az_inT1 171 rfl rfl, rfl, rfl, rfl⟩
set_option maxRecDepth 20000 in
theorem fl_X4_110 : az_FL RX4 110 6 0 (.int) false := ⟨0, RX6, TX6, 8, tyX6, az_cl6, rfl, by decide, az_inT1 158 rfl rfl, rfl, rfl, rfl⟩
set_option maxRecDepth 20000 in
theorem fl_X4_163 : az_FL RX4 163 6 5 (.array (.object "FamilyReducer$Row")) true := ⟨5, RX6, TX6, 8, tyX6, az_cl6, rfl, by decide, az_inT1 174 rfl rfl, rfl, rfl, rfl⟩
set_option maxRecDepth 20000 in
theorem fl_X4_166 : az_FL RX4 166 6 6 (.array (.object "FamilyReducer$Row")) true := ⟨6, RX6, TX6, 8, tyX6, az_cl6, rfl, by decide, az_inT1 177 rfl rfl, rfl, rfl, rfl⟩
set_option maxRecDepth 20000 in
theorem fl_X4_117 : az_FL RX4 117 6 1 (.int) false := ⟨1, RX6, TX6, 8, tyX6, az_cl6, rfl, by decide, az_inT1 162 rfl rfl, rfl, rfl, rfl⟩
set_option maxRecDepth 20000 in
theorem ml_X4_106 : Cond.methodLink RX4 106 yX6_clear ∈ az_gw := az_inT5 101 rfl rfl
set_option maxRecDepth 20000 in
theorem ml_X4_113 : Cond.methodLink RX4 113 yX4_readGiven ∈ az_gw := az_inT5 105 rfl rfl
set_option maxRecDepth 20000 in
theorem ml_X4_120 : Cond.methodLink RX4 120 yX4_readWant ∈ az_gw := az_inT5 109 rfl rfl
set_option maxRecDepth 20000 in
theorem fl_X8_68 : az_FL RX8 68 6 2 (.int) false := ⟨2, RX6, TX6, 8, tyX6, az_cl6, rfl, by decide, az_inT1 164 rfl rfl, rfl, rfl, rfl⟩
set_option maxRecDepth 20000 in
theorem fl_X8_71 : az_FL RX8 71 6 7 (.array .int) true := ⟨7, RX6, TX6, 8, tyX6, az_cl6, rfl, by decide, az_inT1 179 rfl rfl, rfl, rfl, rfl⟩
set_option maxRecDepth 20000 in
theorem ml_X8_72 : Cond.methodLink RX8 72 arraycopyName ∈ az_gw := az_inT5 117 rfl rfl
set_option maxRecDepth 20000 in
theorem fl_X8_78 : az_FL RX8 78 6 1 (.int) false := ⟨1, RX6, TX6, 8, tyX6, az_cl6, rfl, by decide, az_inT1 161 rfl rfl, rfl, rfl, rfl⟩
set_option maxRecDepth 20000 in
theorem fl_X8_81 : az_FL RX8 81 6 5 (.array (.object "FamilyReducer$Row")) true := ⟨5, RX6, TX6, 8, tyX6, az_cl6, rfl, by decide, az_inT1 173 rfl rfl, rfl, rfl, rfl⟩
set_option maxRecDepth 20000 in
theorem ml_X8_84 : Cond.methodLink RX8 84 yX7_take ∈ az_gw := az_inT5 118 rfl rfl
set_option maxRecDepth 20000 in
theorem fl_X8_88 : az_FL RX8 88 6 6 (.array (.object "FamilyReducer$Row")) true := ⟨6, RX6, TX6, 8, tyX6, az_cl6, rfl, by decide, az_inT1 176 rfl rfl, rfl, rfl, rfl⟩
set_option maxRecDepth 20000 in
theorem ml_X8_139 : Cond.methodLink RX8 139 yX7_times ∈ az_gw := az_inT5 149 rfl rfl
set_option maxRecDepth 20000 in
theorem ml_X8_143 : Cond.methodLink RX8 143 yX7_standsOutsideFamilies ∈ az_gw := az_inT5 150 rfl rfl
set_option maxRecDepth 20000 in
theorem ml_X8_146 : Cond.methodLink RX8 146 yX7_arity ∈ az_gw := az_inT5 155 rfl rfl
set_option maxRecDepth 20000 in
theorem ml_X8_149 : Cond.methodLink RX8 149 yX7_takePart ∈ az_gw := az_inT5 156 rfl rfl
set_option maxRecDepth 20000 in
theorem ml_X8_153 : Cond.methodLink RX8 153 yX7_end ∈ az_gw := az_inT5 160 rfl rfl
set_option maxRecDepth 20000 in
theorem ml_X8_112 : Cond.methodLink RX8 112 yX7_same ∈ az_gw := az_inT5 144 rfl rfl
set_option maxRecDepth 20000 in
theorem ml_X8_122 : Cond.methodLink RX8 122 yX8_become ∈ az_gw := az_inT5 145 rfl rfl
set_option maxRecDepth 20000 in
theorem ml_X8_126 : Cond.methodLink RX8 126 yX8_takeApart ∈ az_gw := az_inT5 151 rfl rfl
set_option maxRecDepth 20000 in
theorem ml_X8_132 : Cond.methodLink RX8 132 yX9_goesBackwards ∈ az_gw := az_inT5 161 rfl rfl
set_option maxRecDepth 20000 in
theorem fl_X8_91 : az_FL RX8 91 5 3 (.object "FamilyReducer$Row") true := ⟨3, RX5, TX5, 16, tyX5, az_cl5, rfl, by decide, az_inT2 103 rfl rfl, rfl, rfl, rfl⟩
set_option maxRecDepth 20000 in
theorem ml_X8_97 : Cond.methodLink RX8 97 yX8_expand ∈ az_gw := az_inT5 127 rfl rfl
set_option maxRecDepth 20000 in
theorem ml_X8_101 : Cond.methodLink RX8 101 yX5_reduceAll ∈ az_gw := az_inT5 139 rfl rfl
set_option maxRecDepth 20000 in
theorem ml_X8_105 : Cond.methodLink RX8 105 yX8_settle ∈ az_gw := az_inT5 140 rfl rfl
set_option maxRecDepth 20000 in
theorem ml_X8_109 : Cond.methodLink RX8 109 yX8_remove ∈ az_gw := az_inT5 162 rfl rfl
set_option maxRecDepth 20000 in
theorem ml_X10_321 : Cond.methodLink RX10 321 yX4_readRequest ∈ az_gw := az_inT5 97 rfl rfl
set_option maxRecDepth 20000 in
theorem ml_X10_324 : Cond.methodLink RX10 324 yX8_begin ∈ az_gw := az_inT5 113 rfl rfl
set_option maxRecDepth 20000 in
theorem fl_X10_328 : az_FL RX10 328 5 4 (.boolean) false := ⟨4, RX5, TX5, 16, tyX5, az_cl5, rfl, by decide, az_inT2 106 rfl rfl, rfl, rfl, rfl⟩
set_option maxRecDepth 20000 in
theorem ml_X10_332 : Cond.methodLink RX10 332 yX8_goesOn ∈ az_gw := az_inT5 119 rfl rfl
set_option maxRecDepth 20000 in
theorem ml_X10_335 : Cond.methodLink RX10 335 yX8_oneRound ∈ az_gw := az_inT5 123 rfl rfl
set_option maxRecDepth 20000 in
theorem fl_X10_339 : az_FL RX10 339 8 1 (.int) false := ⟨1, RX8, TX8, 16, tyX8, az_cl8, rfl, by decide, az_inT2 167 rfl rfl, rfl, rfl, rfl⟩
set_option maxRecDepth 20000 in
theorem fl_X10_340 : az_FL RX10 340 8 0 (.boolean) false := ⟨0, RX8, TX8, 16, tyX8, az_cl8, rfl, by decide, az_inT2 165 rfl rfl, rfl, rfl, rfl⟩
set_option maxRecDepth 20000 in
theorem fl_X10_343 : az_FL RX10 343 8 2 (.int) false := ⟨2, RX8, TX8, 16, tyX8, az_cl8, rfl, by decide, az_inT2 169 rfl rfl, rfl, rfl, rfl⟩
set_option maxRecDepth 20000 in
theorem fl_X10_346 : az_FL RX10 346 8 3 (.int) false := ⟨3, RX8, TX8, 16, tyX8, az_cl8, rfl, by decide, az_inT2 171 rfl rfl, rfl, rfl, rfl⟩
set_option maxRecDepth 20000 in
theorem fl_X10_349 : az_FL RX10 349 8 4 (.int) false := ⟨4, RX8, TX8, 16, tyX8, az_cl8, rfl, by decide, az_inT2 173 rfl rfl, rfl, rfl, rfl⟩
set_option maxRecDepth 20000 in
theorem fl_X10_355 : az_FL RX10 355 8 6 (.int) false := ⟨6, RX8, TX8, 16, tyX8, az_cl8, rfl, by decide, az_inT2 177 rfl rfl, rfl, rfl, rfl⟩
set_option maxRecDepth 20000 in
theorem ml_X10_309 : Cond.methodLink RX10 309 yX7_same ∈ az_gw := az_inT5 70 rfl rfl
set_option maxRecDepth 20000 in
theorem fl_X11_213 : az_FL RX11 213 11 2 (.int) false := ⟨2, RX11, TX11, 116, tyX11, az_cl11, rfl, by decide, az_inT5 185 rfl rfl, rfl, rfl, rfl⟩
set_option maxRecDepth 20000 in
theorem fl_X11_79 : az_FL RX11 79 11 41 (.array .int) true := ⟨41, RX11, TX11, 116, tyX11, az_cl11, rfl, by decide, az_inT5 224 rfl rfl, rfl, rfl, rfl⟩
set_option maxRecDepth 20000 in
theorem ml_X11_288 : Cond.methodLink RX11 288 yX11_isVar ∈ az_gw := az_inT7 175 rfl rfl
set_option maxRecDepth 20000 in
theorem ml_X11_291 : Cond.methodLink RX11 291 yX11_isFam ∈ az_gw := az_inT7 178 rfl rfl
set_option maxRecDepth 20000 in
theorem fl_X11_39 : az_FL RX11 39 11 22 (.array .int) true := ⟨22, RX11, TX11, 116, tyX11, az_cl11, rfl, by decide, az_inT5 205 rfl rfl, rfl, rfl, rfl⟩
set_option maxRecDepth 20000 in
theorem fl_X11_285 : az_FL RX11 285 11 15 (.int) false := ⟨15, RX11, TX11, 116, tyX11, az_cl11, rfl, by decide, az_inT5 198 rfl rfl, rfl, rfl, rfl⟩
set_option maxRecDepth 20000 in
theorem fl_X11_36 : az_FL RX11 36 11 21 (.array .int) true := ⟨21, RX11, TX11, 116, tyX11, az_cl11, rfl, by decide, az_inT5 204 rfl rfl, rfl, rfl, rfl⟩
set_option maxRecDepth 20000 in
theorem ml_X11_438 : Cond.methodLink RX11 438 yX11_find ∈ az_gw := az_inT8 4 rfl rfl
set_option maxRecDepth 20000 in
theorem fl_X11_73 : az_FL RX11 73 11 39 (.array .int) true := ⟨39, RX11, TX11, 116, tyX11, az_cl11, rfl, by decide, az_inT5 222 rfl rfl, rfl, rfl, rfl⟩
set_option maxRecDepth 20000 in
theorem ml_X11_336 : Cond.methodLink RX11 336 yX11_takes ∈ az_gw := az_inT7 171 rfl rfl
set_option maxRecDepth 20000 in
theorem fl_X11_76 : az_FL RX11 76 11 40 (.array .int) true := ⟨40, RX11, TX11, 116, tyX11, az_cl11, rfl, by decide, az_inT5 223 rfl rfl, rfl, rfl, rfl⟩
set_option maxRecDepth 20000 in
theorem ml_X11_448 : Cond.methodLink RX11 448 yX11_areSame ∈ az_gw := az_inT8 16 rfl rfl
set_option maxRecDepth 20000 in
theorem fl_X11_404 : az_FL RX11 404 11 49 (.int) false := ⟨49, RX11, TX11, 116, tyX11, az_cl11, rfl, by decide, az_inT5 232 rfl rfl, rfl, rfl, rfl⟩
set_option maxRecDepth 20000 in
theorem fl_X11_407 : az_FL RX11 407 11 50 (.int) false := ⟨50, RX11, TX11, 116, tyX11, az_cl11, rfl, by decide, az_inT5 233 rfl rfl, rfl, rfl, rfl⟩
set_option maxRecDepth 20000 in
theorem fl_X11_410 : az_FL RX11 410 11 51 (.int) false := ⟨51, RX11, TX11, 116, tyX11, az_cl11, rfl, by decide, az_inT5 234 rfl rfl, rfl, rfl, rfl⟩
set_option maxRecDepth 20000 in
theorem fl_X11_82 : az_FL RX11 82 11 42 (.array .int) true := ⟨42, RX11, TX11, 116, tyX11, az_cl11, rfl, by decide, az_inT5 225 rfl rfl, rfl, rfl, rfl⟩
set_option maxRecDepth 20000 in
theorem ml_X11_445 : Cond.methodLink RX11 445 yX11_isRound ∈ az_gw := az_inT8 12 rfl rfl
set_option maxRecDepth 20000 in
theorem ml_X11_441 : Cond.methodLink RX11 441 yX11_joins ∈ az_gw := az_inT8 0 rfl rfl
set_option maxRecDepth 20000 in
theorem ml_X11_416 : Cond.methodLink RX11 416 yX11_sizeAt ∈ az_gw := az_inT7 221 rfl rfl
set_option maxRecDepth 20000 in
theorem fl_X11_97 : az_FL RX11 97 11 47 (.array .int) true := ⟨47, RX11, TX11, 116, tyX11, az_cl11, rfl, by decide, az_inT5 230 rfl rfl, rfl, rfl, rfl⟩
set_option maxRecDepth 20000 in
theorem fl_X11_94 : az_FL RX11 94 11 46 (.array .int) true := ⟨46, RX11, TX11, 116, tyX11, az_cl11, rfl, by decide, az_inT5 229 rfl rfl, rfl, rfl, rfl⟩
set_option maxRecDepth 20000 in
theorem ml_X11_420 : Cond.methodLink RX11 420 yX11_isSame ∈ az_gw := az_inT7 225 rfl rfl
set_option maxRecDepth 20000 in
theorem fl_X11_100 : az_FL RX11 100 11 48 (.array .int) true := ⟨48, RX11, TX11, 116, tyX11, az_cl11, rfl, by decide, az_inT5 231 rfl rfl, rfl, rfl, rfl⟩
set_option maxRecDepth 20000 in
theorem ml_X11_413 : Cond.methodLink RX11 413 yX11_adds ∈ az_gw := az_inT7 228 rfl rfl
set_option maxRecDepth 20000 in
theorem fl_X11_85 : az_FL RX11 85 11 43 (.array .int) true := ⟨43, RX11, TX11, 116, tyX11, az_cl11, rfl, by decide, az_inT5 226 rfl rfl, rfl, rfl, rfl⟩
set_option maxRecDepth 20000 in
theorem fl_X11_88 : az_FL RX11 88 11 44 (.array .int) true := ⟨44, RX11, TX11, 116, tyX11, az_cl11, rfl, by decide, az_inT5 227 rfl rfl, rfl, rfl, rfl⟩
set_option maxRecDepth 20000 in
theorem fl_X11_91 : az_FL RX11 91 11 45 (.array .int) true := ⟨45, RX11, TX11, 116, tyX11, az_cl11, rfl, by decide, az_inT5 228 rfl rfl, rfl, rfl, rfl⟩
set_option maxRecDepth 20000 in
theorem fl_X11_424 : az_FL RX11 424 11 52 (.int) false := ⟨52, RX11, TX11, 116, tyX11, az_cl11, rfl, by decide, az_inT5 235 rfl rfl, rfl, rfl, rfl⟩
set_option maxRecDepth 20000 in
theorem ml_X11_427 : Cond.methodLink RX11 427 yX11_flatNodeAt ∈ az_gw := az_inT7 217 rfl rfl
set_option maxRecDepth 20000 in
theorem ml_X11_430 : Cond.methodLink RX11 430 yX11_variableNode ∈ az_gw := az_inT7 232 rfl rfl
set_option maxRecDepth 20000 in
theorem ml_X11_434 : Cond.methodLink RX11 434 yX11_builds ∈ az_gw := az_inT7 213 rfl rfl
set_option maxRecDepth 20000 in
theorem fl_X11_49 : az_FL RX11 49 11 25 (.array .int) true := ⟨25, RX11, TX11, 116, tyX11, az_cl11, rfl, by decide, az_inT5 208 rfl rfl, rfl, rfl, rfl⟩
set_option maxRecDepth 20000 in
theorem ml_X11_358 : Cond.methodLink RX11 358 yX11_eqAt ∈ az_gw := az_inT7 140 rfl rfl
set_option maxRecDepth 20000 in
theorem ml_X11_451 : Cond.methodLink RX11 451 yX11_builtFrom ∈ az_gw := az_inT7 209 rfl rfl
set_option maxRecDepth 20000 in
theorem fl_X11_52 : az_FL RX11 52 11 26 (.array .int) true := ⟨26, RX11, TX11, 116, tyX11, az_cl11, rfl, by decide, az_inT5 209 rfl rfl, rfl, rfl, rfl⟩
set_option maxRecDepth 20000 in
theorem ml_X11_455 : Cond.methodLink RX11 455 yX11_clears ∈ az_gw := az_inT7 201 rfl rfl
set_option maxRecDepth 20000 in
theorem ml_X11_461 : Cond.methodLink RX11 461 yX11_rightNode ∈ az_gw := az_inT7 236 rfl rfl
set_option maxRecDepth 20000 in
theorem ml_X11_458 : Cond.methodLink RX11 458 yX11_leftNode ∈ az_gw := az_inT7 205 rfl rfl
set_option maxRecDepth 20000 in
theorem ml_X11_465 : Cond.methodLink RX11 465 yX11_hasCircle ∈ az_gw := az_inT8 8 rfl rfl
set_option maxRecDepth 20000 in
theorem fl_X11_26 : az_FL RX11 26 11 18 (.array .int) true := ⟨18, RX11, TX11, 116, tyX11, az_cl11, rfl, by decide, az_inT5 201 rfl rfl, rfl, rfl, rfl⟩
set_option maxRecDepth 20000 in
theorem ml_X11_474 : Cond.methodLink RX11 474 yX11_familyOf ∈ az_gw := az_inT8 40 rfl rfl
set_option maxRecDepth 20000 in
theorem fl_X11_58 : az_FL RX11 58 11 28 (.array .int) true := ⟨28, RX11, TX11, 116, tyX11, az_cl11, rfl, by decide, az_inT5 211 rfl rfl, rfl, rfl, rfl⟩
set_option maxRecDepth 20000 in
theorem ml_X11_517 : Cond.methodLink RX11 517 yX11_equationsOf ∈ az_gw := az_inT8 88 rfl rfl
set_option maxRecDepth 20000 in
theorem fl_X11_55 : az_FL RX11 55 11 27 (.array .int) true := ⟨27, RX11, TX11, 116, tyX11, az_cl11, rfl, by decide, az_inT5 210 rfl rfl, rfl, rfl, rfl⟩
set_option maxRecDepth 20000 in
theorem fl_X11_61 : az_FL RX11 61 11 29 (.array .int) true := ⟨29, RX11, TX11, 116, tyX11, az_cl11, rfl, by decide, az_inT5 212 rfl rfl, rfl, rfl, rfl⟩
set_option maxRecDepth 20000 in
theorem ml_X11_529 : Cond.methodLink RX11 529 yX11_standsOut ∈ az_gw := az_inT8 116 rfl rfl
set_option maxRecDepth 20000 in
theorem fl_X11_532 : az_FL RX11 532 11 65 (.int) false := ⟨65, RX11, TX11, 116, tyX11, az_cl11, rfl, by decide, az_inT6 8 rfl rfl, rfl, rfl, rfl⟩
set_option maxRecDepth 20000 in
theorem ml_X11_535 : Cond.methodLink RX11 535 yX11_badAlone ∈ az_gw := az_inT8 112 rfl rfl
set_option maxRecDepth 20000 in
theorem fl_X11_538 : az_FL RX11 538 11 63 (.int) false := ⟨63, RX11, TX11, 116, tyX11, az_cl11, rfl, by decide, az_inT6 6 rfl rfl, rfl, rfl, rfl⟩
set_option maxRecDepth 20000 in
theorem fl_X11_541 : az_FL RX11 541 11 64 (.int) false := ⟨64, RX11, TX11, 116, tyX11, az_cl11, rfl, by decide, az_inT6 7 rfl rfl, rfl, rfl, rfl⟩
set_option maxRecDepth 20000 in
theorem ml_X11_544 : Cond.methodLink RX11 544 yX11_areBad ∈ az_gw := az_inT8 120 rfl rfl
set_option maxRecDepth 20000 in
theorem fl_X11_23 : az_FL RX11 23 11 17 (.array .int) true := ⟨17, RX11, TX11, 116, tyX11, az_cl11, rfl, by decide, az_inT5 200 rfl rfl, rfl, rfl, rfl⟩
set_option maxRecDepth 20000 in
theorem fl_X11_378 : az_FL RX11 378 11 14 (.int) false := ⟨14, RX11, TX11, 116, tyX11, az_cl11, rfl, by decide, az_inT5 197 rfl rfl, rfl, rfl, rfl⟩
set_option maxRecDepth 20000 in
theorem ml_X11_354 : Cond.methodLink RX11 354 yX11_isFrom ∈ az_gw := az_inT7 70 rfl rfl
set_option maxRecDepth 20000 in
theorem ml_X11_372 : Cond.methodLink RX11 372 yX11_refuse ∈ az_gw := az_inT7 73 rfl rfl
set_option maxRecDepth 20000 in
theorem ml_X11_514 : Cond.methodLink RX11 514 yX11_isFamily ∈ az_gw := az_inT8 84 rfl rfl
set_option maxRecDepth 20000 in
theorem ml_X11_547 : Cond.methodLink RX11 547 yX11_isBad ∈ az_gw := az_inT8 108 rfl rfl
set_option maxRecDepth 20000 in
theorem ml_X11_401 : Cond.methodLink RX11 401 yX11_gives ∈ az_gw := az_inT8 20 rfl rfl
set_option maxRecDepth 20000 in
theorem ml_X11_471 : Cond.methodLink RX11 471 yX11_isEquation ∈ az_gw := az_inT8 32 rfl rfl
set_option maxRecDepth 20000 in
theorem fl_X11_109 : az_FL RX11 109 11 55 (.array .boolean) true := ⟨55, RX11, TX11, 116, tyX11, az_cl11, rfl, by decide, az_inT5 238 rfl rfl, rfl, rfl, rfl⟩
set_option maxRecDepth 20000 in
theorem fl_X11_483 : az_FL RX11 483 11 60 (.int) false := ⟨60, RX11, TX11, 116, tyX11, az_cl11, rfl, by decide, az_inT6 3 rfl rfl, rfl, rfl, rfl⟩
set_option maxRecDepth 20000 in
theorem fl_X11_117 : az_FL RX11 117 11 59 (.array .int) true := ⟨59, RX11, TX11, 116, tyX11, az_cl11, rfl, by decide, az_inT6 2 rfl rfl, rfl, rfl, rfl⟩
set_option maxRecDepth 20000 in
theorem ml_X11_486 : Cond.methodLink RX11 486 yX11_letterOf ∈ az_gw := az_inT8 52 rfl rfl
set_option maxRecDepth 20000 in
theorem ml_X11_489 : Cond.methodLink RX11 489 yX11_lettersIn ∈ az_gw := az_inT8 48 rfl rfl
set_option maxRecDepth 20000 in
theorem fl_X11_103 : az_FL RX11 103 11 53 (.array .int) true := ⟨53, RX11, TX11, 116, tyX11, az_cl11, rfl, by decide, az_inT5 236 rfl rfl, rfl, rfl, rfl⟩
set_option maxRecDepth 20000 in
theorem fl_X11_33 : az_FL RX11 33 11 20 (.array .long) true := ⟨20, RX11, TX11, 116, tyX11, az_cl11, rfl, by decide, az_inT5 203 rfl rfl, rfl, rfl, rfl⟩
set_option maxRecDepth 20000 in
theorem fl_X11_29 : az_FL RX11 29 11 19 (.array .long) true := ⟨19, RX11, TX11, 116, tyX11, az_cl11, rfl, by decide, az_inT5 202 rfl rfl, rfl, rfl, rfl⟩
set_option maxRecDepth 20000 in
theorem fl_X11_480 : az_FL RX11 480 11 57 (.int) false := ⟨57, RX11, TX11, 116, tyX11, az_cl11, rfl, by decide, az_inT6 0 rfl rfl, rfl, rfl, rfl⟩
set_option maxRecDepth 20000 in
theorem fl_X11_113 : az_FL RX11 113 11 56 (.array .byte) true := ⟨56, RX11, TX11, 116, tyX11, az_cl11, rfl, by decide, az_inT5 239 rfl rfl, rfl, rfl, rfl⟩
set_option maxRecDepth 20000 in
theorem ml_X11_477 : Cond.methodLink RX11 477 yX11_tellsByte ∈ az_gw := az_inT8 60 rfl rfl
set_option maxRecDepth 20000 in
theorem ml_X11_492 : Cond.methodLink RX11 492 yX11_nameOf ∈ az_gw := az_inT8 64 rfl rfl
set_option maxRecDepth 20000 in
theorem ml_X11_495 : Cond.methodLink RX11 495 yX11_tells ∈ az_gw := az_inT8 68 rfl rfl
set_option maxRecDepth 20000 in
theorem ml_X11_499 : Cond.methodLink RX11 499 yX11_tellsNode ∈ az_gw := az_inT8 56 rfl rfl
set_option maxRecDepth 20000 in
theorem ml_X11_468 : Cond.methodLink RX11 468 yX11_meeting ∈ az_gw := az_inT7 197 rfl rfl
set_option maxRecDepth 20000 in
theorem fl_X11_502 : az_FL RX11 502 11 58 (.boolean) false := ⟨58, RX11, TX11, 116, tyX11, az_cl11, rfl, by decide, az_inT6 1 rfl rfl, rfl, rfl, rfl⟩
set_option maxRecDepth 20000 in
theorem ml_X11_550 : Cond.methodLink RX11 550 yX11_often ∈ az_gw := az_inT8 144 rfl rfl
set_option maxRecDepth 20000 in
theorem ml_X11_554 : Cond.methodLink RX11 554 yX11_unboundBy ∈ az_gw := az_inT8 140 rfl rfl
set_option maxRecDepth 20000 in
theorem ml_X11_557 : Cond.methodLink RX11 557 Lib.Math.min.name ∈ az_gw := az_inT8 147 rfl rfl
set_option maxRecDepth 20000 in
theorem ml_X11_562 : Cond.methodLink RX11 562 yX11_unbound ∈ az_gw := az_inT8 136 rfl rfl
set_option maxRecDepth 20000 in
theorem fl_X11_46 : az_FL RX11 46 11 24 (.array .boolean) true := ⟨24, RX11, TX11, 116, tyX11, az_cl11, rfl, by decide, az_inT5 207 rfl rfl, rfl, rfl, rfl⟩
set_option maxRecDepth 20000 in
theorem fl_X11_508 : az_FL RX11 508 11 61 (.int) false := ⟨61, RX11, TX11, 116, tyX11, az_cl11, rfl, by decide, az_inT6 4 rfl rfl, rfl, rfl, rfl⟩
set_option maxRecDepth 20000 in
theorem fl_X11_511 : az_FL RX11 511 11 62 (.int) false := ⟨62, RX11, TX11, 116, tyX11, az_cl11, rfl, by decide, az_inT6 5 rfl rfl, rfl, rfl, rfl⟩
set_option maxRecDepth 20000 in
theorem ml_X11_505 : Cond.methodLink RX11 505 yX11_onRight ∈ az_gw := az_inT8 92 rfl rfl
set_option maxRecDepth 20000 in
theorem fl_X11_42 : az_FL RX11 42 11 23 (.array .boolean) true := ⟨23, RX11, TX11, 116, tyX11, az_cl11, rfl, by decide, az_inT5 206 rfl rfl, rfl, rfl, rfl⟩
set_option maxRecDepth 20000 in
theorem ml_X11_520 : Cond.methodLink RX11 520 yX11_onRightAgain ∈ az_gw := az_inT8 96 rfl rfl
set_option maxRecDepth 20000 in
theorem ml_X11_523 : Cond.methodLink RX11 523 yX11_isParted ∈ az_gw := az_inT8 100 rfl rfl
set_option maxRecDepth 20000 in
theorem ml_X11_526 : Cond.methodLink RX11 526 yX11_canBack ∈ az_gw := az_inT8 104 rfl rfl
set_option maxRecDepth 20000 in
theorem fl_X11_13 : az_FL RX11 13 11 3 (.int) false := ⟨3, RX11, TX11, 116, tyX11, az_cl11, rfl, by decide, az_inT5 186 rfl rfl, rfl, rfl, rfl⟩
set_option maxRecDepth 20000 in
theorem fl_X11_17 : az_FL RX11 17 11 4 (.int) false := ⟨4, RX11, TX11, 116, tyX11, az_cl11, rfl, by decide, az_inT5 187 rfl rfl, rfl, rfl, rfl⟩
set_option maxRecDepth 20000 in
theorem fl_X11_7 : az_FL RX11 7 11 0 (.array .int) true := ⟨0, RX11, TX11, 116, tyX11, az_cl11, rfl, by decide, az_inT5 183 rfl rfl, rfl, rfl, rfl⟩
set_option maxRecDepth 20000 in
theorem fl_X11_216 : az_FL RX11 216 11 1 (.int) false := ⟨1, RX11, TX11, 116, tyX11, az_cl11, rfl, by decide, az_inT5 184 rfl rfl, rfl, rfl, rfl⟩
set_option maxRecDepth 20000 in
theorem ml_X11_219 : Cond.methodLink RX11 219 yX11_come ∈ az_gw := az_inT7 62 rfl rfl
set_option maxRecDepth 20000 in
theorem ml_X11_1 : Cond.methodLink RX11 1 Lib.objectInit ∈ az_gw := az_inT5 181 rfl rfl
set_option maxRecDepth 20000 in
theorem fl_X11_20 : az_FL RX11 20 11 16 (.array .int) true := ⟨16, RX11, TX11, 116, tyX11, az_cl11, rfl, by decide, az_inT5 199 rfl rfl, rfl, rfl, rfl⟩
set_option maxRecDepth 20000 in
theorem fl_X11_64 : az_FL RX11 64 11 30 (.array .int) true := ⟨30, RX11, TX11, 116, tyX11, az_cl11, rfl, by decide, az_inT5 213 rfl rfl, rfl, rfl, rfl⟩
set_option maxRecDepth 20000 in
theorem fl_X11_67 : az_FL RX11 67 11 35 (.array .long) true := ⟨35, RX11, TX11, 116, tyX11, az_cl11, rfl, by decide, az_inT5 218 rfl rfl, rfl, rfl, rfl⟩
set_option maxRecDepth 20000 in
theorem fl_X11_70 : az_FL RX11 70 11 36 (.array .long) true := ⟨36, RX11, TX11, 116, tyX11, az_cl11, rfl, by decide, az_inT5 219 rfl rfl, rfl, rfl, rfl⟩
set_option maxRecDepth 20000 in
theorem fl_X11_106 : az_FL RX11 106 11 54 (.array .int) true := ⟨54, RX11, TX11, 116, tyX11, az_cl11, rfl, by decide, az_inT5 237 rfl rfl, rfl, rfl, rfl⟩
set_option maxRecDepth 20000 in
theorem ct_X11_112 : Cond.constant RX11 112 100000 ∈ az_gw := az_inT5 182 rfl rfl
set_option maxRecDepth 20000 in
theorem fl_X11_120 : az_FL RX11 120 11 66 (.array .int) true := ⟨66, RX11, TX11, 116, tyX11, az_cl11, rfl, by decide, az_inT6 9 rfl rfl, rfl, rfl, rfl⟩
set_option maxRecDepth 20000 in
theorem fl_X11_123 : az_FL RX11 123 11 67 (.array .int) true := ⟨67, RX11, TX11, 116, tyX11, az_cl11, rfl, by decide, az_inT6 10 rfl rfl, rfl, rfl, rfl⟩
set_option maxRecDepth 20000 in
theorem fl_X11_126 : az_FL RX11 126 11 68 (.array .int) true := ⟨68, RX11, TX11, 116, tyX11, az_cl11, rfl, by decide, az_inT6 11 rfl rfl, rfl, rfl, rfl⟩
set_option maxRecDepth 20000 in
theorem fl_X11_129 : az_FL RX11 129 11 69 (.array .int) true := ⟨69, RX11, TX11, 116, tyX11, az_cl11, rfl, by decide, az_inT6 12 rfl rfl, rfl, rfl, rfl⟩
set_option maxRecDepth 20000 in
theorem fl_X11_132 : az_FL RX11 132 11 75 (.array .int) true := ⟨75, RX11, TX11, 116, tyX11, az_cl11, rfl, by decide, az_inT6 18 rfl rfl, rfl, rfl, rfl⟩
set_option maxRecDepth 20000 in
theorem fl_X11_135 : az_FL RX11 135 11 76 (.array .int) true := ⟨76, RX11, TX11, 116, tyX11, az_cl11, rfl, by decide, az_inT6 19 rfl rfl, rfl, rfl, rfl⟩
set_option maxRecDepth 20000 in
theorem fl_X11_138 : az_FL RX11 138 11 79 (.array .int) true := ⟨79, RX11, TX11, 116, tyX11, az_cl11, rfl, by decide, az_inT6 22 rfl rfl, rfl, rfl, rfl⟩
set_option maxRecDepth 20000 in
theorem fl_X11_141 : az_FL RX11 141 11 80 (.array .long) true := ⟨80, RX11, TX11, 116, tyX11, az_cl11, rfl, by decide, az_inT6 23 rfl rfl, rfl, rfl, rfl⟩
set_option maxRecDepth 20000 in
theorem fl_X11_144 : az_FL RX11 144 11 82 (.int) false := ⟨82, RX11, TX11, 116, tyX11, az_cl11, rfl, by decide, az_inT6 25 rfl rfl, rfl, rfl, rfl⟩
set_option maxRecDepth 20000 in
theorem fl_X11_147 : az_FL RX11 147 11 83 (.array .int) true := ⟨83, RX11, TX11, 116, tyX11, az_cl11, rfl, by decide, az_inT6 26 rfl rfl, rfl, rfl, rfl⟩
set_option maxRecDepth 20000 in
theorem fl_X11_150 : az_FL RX11 150 11 84 (.array .int) true := ⟨84, RX11, TX11, 116, tyX11, az_cl11, rfl, by decide, az_inT6 27 rfl rfl, rfl, rfl, rfl⟩
set_option maxRecDepth 20000 in
theorem fl_X11_153 : az_FL RX11 153 11 88 (.array .int) true := ⟨88, RX11, TX11, 116, tyX11, az_cl11, rfl, by decide, az_inT6 31 rfl rfl, rfl, rfl, rfl⟩
set_option maxRecDepth 20000 in
theorem fl_X11_156 : az_FL RX11 156 11 89 (.array .int) true := ⟨89, RX11, TX11, 116, tyX11, az_cl11, rfl, by decide, az_inT6 32 rfl rfl, rfl, rfl, rfl⟩
set_option maxRecDepth 20000 in
theorem fl_X11_159 : az_FL RX11 159 11 90 (.array .int) true := ⟨90, RX11, TX11, 116, tyX11, az_cl11, rfl, by decide, az_inT6 33 rfl rfl, rfl, rfl, rfl⟩
set_option maxRecDepth 20000 in
theorem fl_X11_162 : az_FL RX11 162 11 91 (.array .int) true := ⟨91, RX11, TX11, 116, tyX11, az_cl11, rfl, by decide, az_inT6 34 rfl rfl, rfl, rfl, rfl⟩
set_option maxRecDepth 20000 in
theorem fl_X11_165 : az_FL RX11 165 11 92 (.array .int) true := ⟨92, RX11, TX11, 116, tyX11, az_cl11, rfl, by decide, az_inT6 35 rfl rfl, rfl, rfl, rfl⟩
set_option maxRecDepth 20000 in
theorem fl_X11_168 : az_FL RX11 168 11 93 (.array .int) true := ⟨93, RX11, TX11, 116, tyX11, az_cl11, rfl, by decide, az_inT6 36 rfl rfl, rfl, rfl, rfl⟩
set_option maxRecDepth 20000 in
theorem fl_X11_171 : az_FL RX11 171 11 94 (.array .int) true := ⟨94, RX11, TX11, 116, tyX11, az_cl11, rfl, by decide, az_inT6 37 rfl rfl, rfl, rfl, rfl⟩
set_option maxRecDepth 20000 in
theorem fl_X11_174 : az_FL RX11 174 11 95 (.array .int) true := ⟨95, RX11, TX11, 116, tyX11, az_cl11, rfl, by decide, az_inT6 38 rfl rfl, rfl, rfl, rfl⟩
set_option maxRecDepth 20000 in
theorem fl_X11_177 : az_FL RX11 177 11 96 (.array .int) true := ⟨96, RX11, TX11, 116, tyX11, az_cl11, rfl, by decide, az_inT6 39 rfl rfl, rfl, rfl, rfl⟩
set_option maxRecDepth 20000 in
theorem fl_X11_180 : az_FL RX11 180 11 97 (.array .int) true := ⟨97, RX11, TX11, 116, tyX11, az_cl11, rfl, by decide, az_inT6 40 rfl rfl, rfl, rfl, rfl⟩
set_option maxRecDepth 20000 in
theorem fl_X11_183 : az_FL RX11 183 11 98 (.array .long) true := ⟨98, RX11, TX11, 116, tyX11, az_cl11, rfl, by decide, az_inT6 41 rfl rfl, rfl, rfl, rfl⟩
set_option maxRecDepth 20000 in
theorem fl_X11_186 : az_FL RX11 186 11 99 (.array .long) true := ⟨99, RX11, TX11, 116, tyX11, az_cl11, rfl, by decide, az_inT6 42 rfl rfl, rfl, rfl, rfl⟩
set_option maxRecDepth 20000 in
theorem fl_X11_189 : az_FL RX11 189 11 102 (.array .int) true := ⟨102, RX11, TX11, 116, tyX11, az_cl11, rfl, by decide, az_inT6 45 rfl rfl, rfl, rfl, rfl⟩
set_option maxRecDepth 20000 in
theorem fl_X11_192 : az_FL RX11 192 11 103 (.array .int) true := ⟨103, RX11, TX11, 116, tyX11, az_cl11, rfl, by decide, az_inT6 46 rfl rfl, rfl, rfl, rfl⟩
set_option maxRecDepth 20000 in
theorem fl_X11_195 : az_FL RX11 195 11 104 (.array .int) true := ⟨104, RX11, TX11, 116, tyX11, az_cl11, rfl, by decide, az_inT6 47 rfl rfl, rfl, rfl, rfl⟩
set_option maxRecDepth 20000 in
theorem fl_X11_198 : az_FL RX11 198 11 105 (.array .int) true := ⟨105, RX11, TX11, 116, tyX11, az_cl11, rfl, by decide, az_inT6 48 rfl rfl, rfl, rfl, rfl⟩
set_option maxRecDepth 20000 in
theorem fl_X11_201 : az_FL RX11 201 11 106 (.array .int) true := ⟨106, RX11, TX11, 116, tyX11, az_cl11, rfl, by decide, az_inT6 49 rfl rfl, rfl, rfl, rfl⟩
set_option maxRecDepth 20000 in
theorem fl_X11_204 : az_FL RX11 204 11 107 (.array .boolean) true := ⟨107, RX11, TX11, 116, tyX11, az_cl11, rfl, by decide, az_inT6 50 rfl rfl, rfl, rfl, rfl⟩
set_option maxRecDepth 20000 in
theorem fl_X11_207 : az_FL RX11 207 11 112 (.array .int) true := ⟨112, RX11, TX11, 116, tyX11, az_cl11, rfl, by decide, az_inT6 55 rfl rfl, rfl, rfl, rfl⟩
set_option maxRecDepth 20000 in
theorem fl_X11_210 : az_FL RX11 210 11 113 (.array .int) true := ⟨113, RX11, TX11, 116, tyX11, az_cl11, rfl, by decide, az_inT6 56 rfl rfl, rfl, rfl, rfl⟩
set_option maxRecDepth 20000 in
theorem fl_X11_223 : az_FL RX11 223 11 5 (.int) false := ⟨5, RX11, TX11, 116, tyX11, az_cl11, rfl, by decide, az_inT5 188 rfl rfl, rfl, rfl, rfl⟩
set_option maxRecDepth 20000 in
theorem fl_X11_226 : az_FL RX11 226 11 7 (.int) false := ⟨7, RX11, TX11, 116, tyX11, az_cl11, rfl, by decide, az_inT5 190 rfl rfl, rfl, rfl, rfl⟩
set_option maxRecDepth 20000 in
theorem ml_X11_229 : Cond.methodLink RX11 229 yX11_byteAt ∈ az_gw := az_inT7 85 rfl rfl
set_option maxRecDepth 20000 in
theorem fl_X11_233 : az_FL RX11 233 11 6 (.int) false := ⟨6, RX11, TX11, 116, tyX11, az_cl11, rfl, by decide, az_inT5 189 rfl rfl, rfl, rfl, rfl⟩
set_option maxRecDepth 20000 in
theorem fl_X11_236 : az_FL RX11 236 11 8 (.int) false := ⟨8, RX11, TX11, 116, tyX11, az_cl11, rfl, by decide, az_inT5 191 rfl rfl, rfl, rfl, rfl⟩
set_option maxRecDepth 20000 in
theorem ml_X11_239 : Cond.methodLink RX11 239 yX11_isSmall ∈ az_gw := az_inT7 89 rfl rfl
set_option maxRecDepth 20000 in
theorem ml_X11_243 : Cond.methodLink RX11 243 yX11_isGreat ∈ az_gw := az_inT7 92 rfl rfl
set_option maxRecDepth 20000 in
theorem fl_X11_246 : az_FL RX11 246 11 13 (.long) false := ⟨13, RX11, TX11, 116, tyX11, az_cl11, rfl, by decide, az_inT5 196 rfl rfl, rfl, rfl, rfl⟩
set_option maxRecDepth 20000 in
theorem ml_X11_250 : Cond.methodLink RX11 250 yX11_isDigit ∈ az_gw := az_inT7 95 rfl rfl
set_option maxRecDepth 20000 in
theorem fl_X11_253 : az_FL RX11 253 11 9 (.int) false := ⟨9, RX11, TX11, 116, tyX11, az_cl11, rfl, by decide, az_inT5 192 rfl rfl, rfl, rfl, rfl⟩
set_option maxRecDepth 20000 in
theorem fl_X11_256 : az_FL RX11 256 11 10 (.int) false := ⟨10, RX11, TX11, 116, tyX11, az_cl11, rfl, by decide, az_inT5 193 rfl rfl, rfl, rfl, rfl⟩
set_option maxRecDepth 20000 in
theorem fl_X11_270 : az_FL RX11 270 11 11 (.int) false := ⟨11, RX11, TX11, 116, tyX11, az_cl11, rfl, by decide, az_inT5 194 rfl rfl, rfl, rfl, rfl⟩
set_option maxRecDepth 20000 in
theorem fl_X11_273 : az_FL RX11 273 11 12 (.int) false := ⟨12, RX11, TX11, 116, tyX11, az_cl11, rfl, by decide, az_inT5 195 rfl rfl, rfl, rfl, rfl⟩
set_option maxRecDepth 20000 in
theorem ml_X11_282 : Cond.methodLink RX11 282 yX11_go ∈ az_gw := az_inT7 81 rfl rfl
set_option maxRecDepth 20000 in
theorem ml_X11_259 : Cond.methodLink RX11 259 yX11_spelt ∈ az_gw := az_inT7 109 rfl rfl
set_option maxRecDepth 20000 in
theorem ml_X11_263 : Cond.methodLink RX11 263 yX11_wordOf ∈ az_gw := az_inT7 106 rfl rfl
set_option maxRecDepth 20000 in
theorem ml_X11_276 : Cond.methodLink RX11 276 yX11_isSign ∈ az_gw := az_inT7 132 rfl rfl
set_option maxRecDepth 20000 in
theorem ml_X11_279 : Cond.methodLink RX11 279 yX11_bad ∈ az_gw := az_inT7 116 rfl rfl
set_option maxRecDepth 20000 in
theorem ml_X11_267 : Cond.methodLink RX11 267 yX11_isWord ∈ az_gw := az_inT7 102 rfl rfl
set_option maxRecDepth 20000 in
theorem fl_X11_294 : az_FL RX11 294 11 31 (.int) false := ⟨31, RX11, TX11, 116, tyX11, az_cl11, rfl, by decide, az_inT5 214 rfl rfl, rfl, rfl, rfl⟩
set_option maxRecDepth 20000 in
theorem ml_X11_343 : Cond.methodLink RX11 343 yX11_mayEnd ∈ az_gw := az_inT7 185 rfl rfl
set_option maxRecDepth 20000 in
theorem ml_X11_347 : Cond.methodLink RX11 347 yX11_readTerm ∈ az_gw := az_inT7 148 rfl rfl
set_option maxRecDepth 20000 in
theorem ml_X11_351 : Cond.methodLink RX11 351 yX11_eats ∈ az_gw := az_inT7 128 rfl rfl
set_option maxRecDepth 20000 in
theorem fl_X11_307 : az_FL RX11 307 11 33 (.int) false := ⟨33, RX11, TX11, 116, tyX11, az_cl11, rfl, by decide, az_inT5 216 rfl rfl, rfl, rfl, rfl⟩
set_option maxRecDepth 20000 in
theorem fl_X11_304 : az_FL RX11 304 11 32 (.int) false := ⟨32, RX11, TX11, 116, tyX11, az_cl11, rfl, by decide, az_inT5 215 rfl rfl, rfl, rfl, rfl⟩
set_option maxRecDepth 20000 in
theorem fl_X11_316 : az_FL RX11 316 11 38 (.int) false := ⟨38, RX11, TX11, 116, tyX11, az_cl11, rfl, by decide, az_inT5 221 rfl rfl, rfl, rfl, rfl⟩
set_option maxRecDepth 20000 in
theorem ml_X11_300 : Cond.methodLink RX11 300 yX11_findIn ∈ az_gw := az_inT7 160 rfl rfl
set_option maxRecDepth 20000 in
theorem ml_X11_313 : Cond.methodLink RX11 313 yX11_puts ∈ az_gw := az_inT7 163 rfl rfl
set_option maxRecDepth 20000 in
theorem fl_X11_297 : az_FL RX11 297 11 37 (.int) false := ⟨37, RX11, TX11, 116, tyX11, az_cl11, rfl, by decide, az_inT5 220 rfl rfl, rfl, rfl, rfl⟩
set_option maxRecDepth 20000 in
theorem fl_X11_310 : az_FL RX11 310 11 34 (.int) false := ⟨34, RX11, TX11, 116, tyX11, az_cl11, rfl, by decide, az_inT5 217 rfl rfl, rfl, rfl, rfl⟩
set_option maxRecDepth 20000 in
theorem ml_X11_319 : Cond.methodLink RX11 319 yX11_isVariable ∈ az_gw := az_inT7 152 rfl rfl
set_option maxRecDepth 20000 in
theorem ml_X11_323 : Cond.methodLink RX11 323 yX11_readVariable ∈ az_gw := az_inT7 156 rfl rfl
set_option maxRecDepth 20000 in
theorem ml_X11_326 : Cond.methodLink RX11 326 yX11_readUnknown ∈ az_gw := az_inT7 167 rfl rfl
set_option maxRecDepth 20000 in
theorem ml_X11_329 : Cond.methodLink RX11 329 yX11_famOf ∈ az_gw := az_inT7 120 rfl rfl
set_option maxRecDepth 20000 in
theorem ml_X11_333 : Cond.methodLink RX11 333 yX11_conOf ∈ az_gw := az_inT7 124 rfl rfl
set_option maxRecDepth 20000 in
theorem ml_X11_339 : Cond.methodLink RX11 339 yX11_readArguments ∈ az_gw := az_inT7 181 rfl rfl
set_option maxRecDepth 20000 in
theorem ml_X11_361 : Cond.methodLink RX11 361 yX11_readWhole ∈ az_gw := az_inT7 144 rfl rfl
set_option maxRecDepth 20000 in
theorem ml_X11_365 : Cond.methodLink RX11 365 yX11_readTold ∈ az_gw := az_inT7 112 rfl rfl
set_option maxRecDepth 20000 in
theorem ml_X11_369 : Cond.methodLink RX11 369 yX11_readEquation ∈ az_gw := az_inT7 136 rfl rfl
set_option maxRecDepth 20000 in
theorem ml_X11_375 : Cond.methodLink RX11 375 yX11_begins ∈ az_gw := az_inT7 77 rfl rfl
set_option maxRecDepth 20000 in
theorem ml_X11_381 : Cond.methodLink RX11 381 yX11_readLine ∈ az_gw := az_inT7 98 rfl rfl
set_option maxRecDepth 20000 in
theorem ml_X11_384 : Cond.methodLink RX11 384 yX11_ends ∈ az_gw := az_inT7 189 rfl rfl
set_option maxRecDepth 20000 in
theorem fl_X11_388 : az_FL RX11 388 11 81 (.int) false := ⟨81, RX11, TX11, 116, tyX11, az_cl11, rfl, by decide, az_inT6 24 rfl rfl, rfl, rfl, rfl⟩
set_option maxRecDepth 20000 in
theorem fl_X11_391 : az_FL RX11 391 11 87 (.boolean) false := ⟨87, RX11, TX11, 116, tyX11, az_cl11, rfl, by decide, az_inT6 30 rfl rfl, rfl, rfl, rfl⟩
set_option maxRecDepth 20000 in
theorem fl_X11_395 : az_FL RX11 395 11 101 (.int) false := ⟨101, RX11, TX11, 116, tyX11, az_cl11, rfl, by decide, az_inT6 44 rfl rfl, rfl, rfl, rfl⟩
set_option maxRecDepth 20000 in
theorem ml_X11_398 : Cond.methodLink RX11 398 yX11_laysCompatible ∈ az_gw := az_inT7 193 rfl rfl
set_option maxRecDepth 20000 in
theorem ml_X11_565 : Cond.methodLink RX11 565 yX11_builtFlat ∈ az_gw := az_inT8 181 rfl rfl
set_option maxRecDepth 20000 in
theorem ml_X11_569 : Cond.methodLink RX11 569 yX11_isApart ∈ az_gw := az_inT8 177 rfl rfl
set_option maxRecDepth 20000 in
theorem ml_X11_573 : Cond.methodLink RX11 573 yX11_fits ∈ az_gw := az_inT8 169 rfl rfl
set_option maxRecDepth 20000 in
theorem ml_X11_576 : Cond.methodLink RX11 576 yX11_mayStill ∈ az_gw := az_inT8 173 rfl rfl
set_option maxRecDepth 20000 in
theorem ml_X11_580 : Cond.methodLink RX11 580 yX11_whyNot ∈ az_gw := az_inT8 165 rfl rfl
set_option maxRecDepth 20000 in
theorem ml_X11_642 : Cond.methodLink RX11 642 yX11_isNode ∈ az_gw := az_inT8 189 rfl rfl
set_option maxRecDepth 20000 in
theorem ml_X11_645 : Cond.methodLink RX11 645 yX11_isCon ∈ az_gw := az_inT8 193 rfl rfl
set_option maxRecDepth 20000 in
theorem ml_X11_589 : Cond.methodLink RX11 589 yX11_firing ∈ az_gw := az_inT8 161 rfl rfl
set_option maxRecDepth 20000 in
theorem ml_X11_636 : Cond.methodLink RX11 636 yX11_deepOf ∈ az_gw := az_inT8 156 rfl rfl
set_option maxRecDepth 20000 in
theorem ml_X11_639 : Cond.methodLink RX11 639 Lib.Math.max.name ∈ az_gw := az_inT8 160 rfl rfl
set_option maxRecDepth 20000 in
theorem ml_X11_657 : Cond.methodLink RX11 657 yX11_tellsRow ∈ az_gw := az_inT9 28 rfl rfl
set_option maxRecDepth 20000 in
theorem fl_X11_601 : az_FL RX11 601 11 70 (.int) false := ⟨70, RX11, TX11, 116, tyX11, az_cl11, rfl, by decide, az_inT6 13 rfl rfl, rfl, rfl, rfl⟩
set_option maxRecDepth 20000 in
theorem fl_X11_586 : az_FL RX11 586 11 72 (.boolean) false := ⟨72, RX11, TX11, 116, tyX11, az_cl11, rfl, by decide, az_inT6 15 rfl rfl, rfl, rfl, rfl⟩
set_option maxRecDepth 20000 in
theorem fl_X11_583 : az_FL RX11 583 11 85 (.int) false := ⟨85, RX11, TX11, 116, tyX11, az_cl11, rfl, by decide, az_inT6 28 rfl rfl, rfl, rfl, rfl⟩
set_option maxRecDepth 20000 in
theorem ml_X11_592 : Cond.methodLink RX11 592 yX11_firstWithin ∈ az_gw := az_inT8 216 rfl rfl
set_option maxRecDepth 20000 in
theorem fl_X11_595 : az_FL RX11 595 11 73 (.int) false := ⟨73, RX11, TX11, 116, tyX11, az_cl11, rfl, by decide, az_inT6 16 rfl rfl, rfl, rfl, rfl⟩
set_option maxRecDepth 20000 in
theorem ml_X11_598 : Cond.methodLink RX11 598 yX11_doneAt ∈ az_gw := az_inT8 220 rfl rfl
set_option maxRecDepth 20000 in
theorem fl_X11_604 : az_FL RX11 604 11 71 (.int) false := ⟨71, RX11, TX11, 116, tyX11, az_cl11, rfl, by decide, az_inT6 14 rfl rfl, rfl, rfl, rfl⟩
set_option maxRecDepth 20000 in
theorem fl_X11_607 : az_FL RX11 607 11 74 (.boolean) false := ⟨74, RX11, TX11, 116, tyX11, az_cl11, rfl, by decide, az_inT6 17 rfl rfl, rfl, rfl, rfl⟩
set_option maxRecDepth 20000 in
theorem ml_X11_610 : Cond.methodLink RX11 610 yX11_follows ∈ az_gw := az_inT8 232 rfl rfl
set_option maxRecDepth 20000 in
theorem ml_X11_614 : Cond.methodLink RX11 614 yX11_firstWithout ∈ az_gw := az_inT8 224 rfl rfl
set_option maxRecDepth 20000 in
theorem ml_X11_618 : Cond.methodLink RX11 618 yX11_makes ∈ az_gw := az_inT8 228 rfl rfl
set_option maxRecDepth 20000 in
theorem ml_X11_621 : Cond.methodLink RX11 621 yX11_becomesNext ∈ az_gw := az_inT8 236 rfl rfl
set_option maxRecDepth 20000 in
theorem fl_X11_624 : az_FL RX11 624 11 77 (.int) false := ⟨77, RX11, TX11, 116, tyX11, az_cl11, rfl, by decide, az_inT6 20 rfl rfl, rfl, rfl, rfl⟩
set_option maxRecDepth 20000 in
theorem ml_X11_627 : Cond.methodLink RX11 627 yX11_keepsPast ∈ az_gw := az_inT9 12 rfl rfl
set_option maxRecDepth 20000 in
theorem ml_X11_630 : Cond.methodLink RX11 630 yX11_steps ∈ az_gw := az_inT8 212 rfl rfl
set_option maxRecDepth 20000 in
theorem fl_X11_633 : az_FL RX11 633 11 78 (.int) false := ⟨78, RX11, TX11, 116, tyX11, az_cl11, rfl, by decide, az_inT6 21 rfl rfl, rfl, rfl, rfl⟩
set_option maxRecDepth 20000 in
theorem ml_X11_648 : Cond.methodLink RX11 648 yX11_laysTerm ∈ az_gw := az_inT8 208 rfl rfl
set_option maxRecDepth 20000 in
theorem ml_X11_654 : Cond.methodLink RX11 654 yX11_reduces ∈ az_gw := az_inT9 8 rfl rfl
set_option maxRecDepth 20000 in
theorem ml_X11_651 : Cond.methodLink RX11 651 yX11_keepsTerm ∈ az_gw := az_inT9 0 rfl rfl
set_option maxRecDepth 20000 in
theorem ml_X11_679 : Cond.methodLink RX11 679 yX11_comes ∈ az_gw := az_inT9 64 rfl rfl
set_option maxRecDepth 20000 in
theorem ml_X11_683 : Cond.methodLink RX11 683 yX11_expands ∈ az_gw := az_inT9 60 rfl rfl
set_option maxRecDepth 20000 in
theorem fl_X11_661 : az_FL RX11 661 11 100 (.int) false := ⟨100, RX11, TX11, 116, tyX11, az_cl11, rfl, by decide, az_inT6 43 rfl rfl, rfl, rfl, rfl⟩
set_option maxRecDepth 20000 in
theorem fl_X11_664 : az_FL RX11 664 11 86 (.int) false := ⟨86, RX11, TX11, 116, tyX11, az_cl11, rfl, by decide, az_inT6 29 rfl rfl, rfl, rfl, rfl⟩
set_option maxRecDepth 20000 in
theorem fl_X11_676 : az_FL RX11 676 11 108 (.int) false := ⟨108, RX11, TX11, 116, tyX11, az_cl11, rfl, by decide, az_inT6 51 rfl rfl, rfl, rfl, rfl⟩
set_option maxRecDepth 20000 in
theorem ml_X11_692 : Cond.methodLink RX11 692 yX11_length ∈ az_gw := az_inT9 87 rfl rfl
set_option maxRecDepth 20000 in
theorem ml_X11_695 : Cond.methodLink RX11 695 yX11_putsSide ∈ az_gw := az_inT9 91 rfl rfl
set_option maxRecDepth 20000 in
theorem ml_X11_686 : Cond.methodLink RX11 686 yX11_hasCode ∈ az_gw := az_inT9 76 rfl rfl
set_option maxRecDepth 20000 in
theorem ml_X11_689 : Cond.methodLink RX11 689 yX11_hasOutside ∈ az_gw := az_inT9 79 rfl rfl
set_option maxRecDepth 20000 in
theorem ml_X11_699 : Cond.methodLink RX11 699 yX11_reducesSide ∈ az_gw := az_inT9 56 rfl rfl
set_option maxRecDepth 20000 in
theorem fl_X11_702 : az_FL RX11 702 11 114 (.int) false := ⟨114, RX11, TX11, 116, tyX11, az_cl11, rfl, by decide, az_inT6 57 rfl rfl, rfl, rfl, rfl⟩
set_option maxRecDepth 20000 in
theorem fl_X11_705 : az_FL RX11 705 11 115 (.int) false := ⟨115, RX11, TX11, 116, tyX11, az_cl11, rfl, by decide, az_inT6 58 rfl rfl, rfl, rfl, rfl⟩
set_option maxRecDepth 20000 in
theorem ml_X11_708 : Cond.methodLink RX11 708 yX11_isUnknown ∈ az_gw := az_inT9 68 rfl rfl
set_option maxRecDepth 20000 in
theorem ml_X11_712 : Cond.methodLink RX11 712 yX11_unknownBy ∈ az_gw := az_inT9 72 rfl rfl
set_option maxRecDepth 20000 in
theorem ml_X11_715 : Cond.methodLink RX11 715 yX11_splits ∈ az_gw := az_inT9 83 rfl rfl
set_option maxRecDepth 20000 in
theorem fl_X11_718 : az_FL RX11 718 11 109 (.int) false := ⟨109, RX11, TX11, 116, tyX11, az_cl11, rfl, by decide, az_inT6 52 rfl rfl, rfl, rfl, rfl⟩
set_option maxRecDepth 20000 in
theorem ml_X11_730 : Cond.methodLink RX11 730 yX11_asks ∈ az_gw := az_inT9 52 rfl rfl
set_option maxRecDepth 20000 in
theorem fl_X11_721 : az_FL RX11 721 11 110 (.int) false := ⟨110, RX11, TX11, 116, tyX11, az_cl11, rfl, by decide, az_inT6 53 rfl rfl, rfl, rfl, rfl⟩
set_option maxRecDepth 20000 in
theorem ml_X11_733 : Cond.methodLink RX11 733 yX11_closesUp ∈ az_gw := az_inT9 95 rfl rfl
set_option maxRecDepth 20000 in
theorem fl_X11_724 : az_FL RX11 724 11 111 (.int) false := ⟨111, RX11, TX11, 116, tyX11, az_cl11, rfl, by decide, az_inT6 54 rfl rfl, rfl, rfl, rfl⟩
set_option maxRecDepth 20000 in
theorem ml_X11_727 : Cond.methodLink RX11 727 yX11_round ∈ az_gw := az_inT9 48 rfl rfl
set_option maxRecDepth 20000 in
theorem ml_X11_667 : Cond.methodLink RX11 667 yX11_readWanted ∈ az_gw := az_inT9 36 rfl rfl
set_option maxRecDepth 20000 in
theorem ml_X11_670 : Cond.methodLink RX11 670 yX11_takesWanted ∈ az_gw := az_inT9 40 rfl rfl
set_option maxRecDepth 20000 in
theorem ml_X11_673 : Cond.methodLink RX11 673 yX11_solves ∈ az_gw := az_inT9 44 rfl rfl
set_option maxRecDepth 20000 in
theorem ml_X11_736 : Cond.methodLink RX11 736 yX11_known ∈ az_gw := az_inT9 103 rfl rfl
set_option maxRecDepth 20000 in
theorem cl_L_7 : Cond.classLink RL 7 RX10 ∈ az_gw := az_inT1 15 rfl rfl
set_option maxRecDepth 20000 in
theorem ml_L_9 : Cond.methodLink RL 9 yX10_init ∈ az_gw := az_inT1 17 rfl rfl
set_option maxRecDepth 20000 in
theorem cl_L_10 : Cond.classLink RL 10 RX11 ∈ az_gw := az_inT5 176 rfl rfl
set_option maxRecDepth 20000 in
theorem ml_L_12 : Cond.methodLink RL 12 yX11_init ∈ az_gw := az_inT5 178 rfl rfl
set_option maxRecDepth 20000 in
theorem ml_L_13 : Cond.methodLink RL 13 yX10_status ∈ az_gw := az_inT3 55 rfl rfl
set_option maxRecDepth 20000 in
theorem ml_L_17 : Cond.methodLink RL 17 yX11_status ∈ az_gw := az_inT7 54 rfl rfl
set_option maxRecDepth 20000 in
theorem ml_L_18 : Cond.methodLink RL 18 yX10_feed ∈ az_gw := az_inT3 59 rfl rfl
set_option maxRecDepth 20000 in
theorem ml_L_22 : Cond.methodLink RL 22 yX11_feed ∈ az_gw := az_inT7 58 rfl rfl
set_option maxRecDepth 20000 in
theorem ml_L_23 : Cond.methodLink RL 23 yX10_load ∈ az_gw := az_inT3 67 rfl rfl
set_option maxRecDepth 20000 in
theorem ml_L_27 : Cond.methodLink RL 27 yX11_load ∈ az_gw := az_inT7 66 rfl rfl
set_option maxRecDepth 20000 in
theorem ml_L_28 : Cond.methodLink RL 28 yX10_fault ∈ az_gw := az_inT4 66 rfl rfl
set_option maxRecDepth 20000 in
theorem ml_L_31 : Cond.methodLink RL 31 yX11_fault ∈ az_gw := az_inT8 24 rfl rfl
set_option maxRecDepth 20000 in
theorem ml_L_32 : Cond.methodLink RL 32 yX10_many ∈ az_gw := az_inT4 70 rfl rfl
set_option maxRecDepth 20000 in
theorem ml_L_35 : Cond.methodLink RL 35 yX11_many ∈ az_gw := az_inT8 76 rfl rfl
set_option maxRecDepth 20000 in
theorem ml_L_36 : Cond.methodLink RL 36 yX10_family ∈ az_gw := az_inT4 74 rfl rfl
set_option maxRecDepth 20000 in
theorem ml_L_40 : Cond.methodLink RL 40 yX11_family ∈ az_gw := az_inT8 80 rfl rfl
set_option maxRecDepth 20000 in
theorem ml_L_41 : Cond.methodLink RL 41 yX10_equation ∈ az_gw := az_inT4 102 rfl rfl
set_option maxRecDepth 20000 in
theorem ml_L_44 : Cond.methodLink RL 44 yX11_equation ∈ az_gw := az_inT8 132 rfl rfl
set_option maxRecDepth 20000 in
theorem ml_L_45 : Cond.methodLink RL 45 yX10_meets ∈ az_gw := az_inT4 127 rfl rfl
set_option maxRecDepth 20000 in
theorem ml_L_48 : Cond.methodLink RL 48 yX11_meets ∈ az_gw := az_inT8 28 rfl rfl
set_option maxRecDepth 20000 in
theorem ml_L_49 : Cond.methodLink RL 49 yX10_compatible ∈ az_gw := az_inT4 132 rfl rfl
set_option maxRecDepth 20000 in
theorem ml_L_52 : Cond.methodLink RL 52 yX11_compatible ∈ az_gw := az_inT8 36 rfl rfl
set_option maxRecDepth 20000 in
theorem ml_L_53 : Cond.methodLink RL 53 yX10_ends ∈ az_gw := az_inT4 137 rfl rfl
set_option maxRecDepth 20000 in
theorem ml_L_57 : Cond.methodLink RL 57 yX11_ends_ ∈ az_gw := az_inT8 44 rfl rfl
set_option maxRecDepth 20000 in
theorem ml_L_58 : Cond.methodLink RL 58 yX10_parts ∈ az_gw := az_inT4 176 rfl rfl
set_option maxRecDepth 20000 in
theorem ml_L_61 : Cond.methodLink RL 61 yX11_parts ∈ az_gw := az_inT8 124 rfl rfl
set_option maxRecDepth 20000 in
theorem ml_L_62 : Cond.methodLink RL 62 yX10_bad ∈ az_gw := az_inT4 180 rfl rfl
set_option maxRecDepth 20000 in
theorem ml_L_65 : Cond.methodLink RL 65 yX11_bad_ ∈ az_gw := az_inT8 128 rfl rfl
set_option maxRecDepth 20000 in
theorem ml_L_66 : Cond.methodLink RL 66 yX10_term ∈ az_gw := az_inT4 184 rfl rfl
set_option maxRecDepth 20000 in
theorem ml_L_69 : Cond.methodLink RL 69 yX11_term ∈ az_gw := az_inT8 148 rfl rfl
set_option maxRecDepth 20000 in
theorem ml_L_70 : Cond.methodLink RL 70 yX10_now ∈ az_gw := az_inT4 202 rfl rfl
set_option maxRecDepth 20000 in
theorem ml_L_73 : Cond.methodLink RL 73 yX11_now ∈ az_gw := az_inT8 152 rfl rfl
set_option maxRecDepth 20000 in
theorem ml_L_74 : Cond.methodLink RL 74 yX10_node ∈ az_gw := az_inT5 1 rfl rfl
set_option maxRecDepth 20000 in
theorem ml_L_77 : Cond.methodLink RL 77 yX11_node ∈ az_gw := az_inT8 185 rfl rfl
set_option maxRecDepth 20000 in
theorem ml_L_78 : Cond.methodLink RL 78 yX10_why ∈ az_gw := az_inT5 13 rfl rfl
set_option maxRecDepth 20000 in
theorem ml_L_81 : Cond.methodLink RL 81 yX11_why ∈ az_gw := az_inT8 196 rfl rfl
set_option maxRecDepth 20000 in
theorem ml_L_82 : Cond.methodLink RL 82 yX10_still ∈ az_gw := az_inT5 21 rfl rfl
set_option maxRecDepth 20000 in
theorem ml_L_85 : Cond.methodLink RL 85 yX11_still ∈ az_gw := az_inT8 200 rfl rfl
set_option maxRecDepth 20000 in
theorem ml_L_86 : Cond.methodLink RL 86 yX10_step ∈ az_gw := az_inT5 26 rfl rfl
set_option maxRecDepth 20000 in
theorem ml_L_89 : Cond.methodLink RL 89 yX11_step ∈ az_gw := az_inT8 204 rfl rfl
set_option maxRecDepth 20000 in
theorem ml_L_90 : Cond.methodLink RL 90 yX10_reduce ∈ az_gw := az_inT5 51 rfl rfl
set_option maxRecDepth 20000 in
theorem ml_L_93 : Cond.methodLink RL 93 yX11_reduce ∈ az_gw := az_inT9 4 rfl rfl
set_option maxRecDepth 20000 in
theorem ml_L_94 : Cond.methodLink RL 94 yX10_would ∈ az_gw := az_inT5 66 rfl rfl
set_option maxRecDepth 20000 in
theorem ml_L_97 : Cond.methodLink RL 97 yX11_would ∈ az_gw := az_inT9 16 rfl rfl
set_option maxRecDepth 20000 in
theorem ml_L_98 : Cond.methodLink RL 98 yX10_period ∈ az_gw := az_inT5 71 rfl rfl
set_option maxRecDepth 20000 in
theorem ml_L_101 : Cond.methodLink RL 101 yX11_period ∈ az_gw := az_inT9 20 rfl rfl
set_option maxRecDepth 20000 in
theorem ml_L_102 : Cond.methodLink RL 102 yX10_print ∈ az_gw := az_inT5 75 rfl rfl
set_option maxRecDepth 20000 in
theorem ml_L_105 : Cond.methodLink RL 105 yX11_print ∈ az_gw := az_inT9 24 rfl rfl
set_option maxRecDepth 20000 in
theorem ml_L_106 : Cond.methodLink RL 106 yX10_out ∈ az_gw := az_inT5 89 rfl rfl
set_option maxRecDepth 20000 in
theorem ml_L_109 : Cond.methodLink RL 109 yX11_out ∈ az_gw := az_inT8 72 rfl rfl
set_option maxRecDepth 20000 in
theorem ml_L_110 : Cond.methodLink RL 110 yX10_want ∈ az_gw := az_inT5 93 rfl rfl
set_option maxRecDepth 20000 in
theorem ml_L_113 : Cond.methodLink RL 113 yX11_want ∈ az_gw := az_inT9 32 rfl rfl
set_option maxRecDepth 20000 in
theorem ml_L_114 : Cond.methodLink RL 114 yX10_wanted ∈ az_gw := az_inT5 166 rfl rfl
set_option maxRecDepth 20000 in
theorem ml_L_117 : Cond.methodLink RL 117 yX11_wanted ∈ az_gw := az_inT9 99 rfl rfl
set_option maxRecDepth 20000 in
theorem ml_L_118 : Cond.methodLink RL 118 yX10_unknown ∈ az_gw := az_inT5 170 rfl rfl
set_option maxRecDepth 20000 in
theorem ml_L_121 : Cond.methodLink RL 121 yX11_unknown ∈ az_gw := az_inT9 107 rfl rfl
set_option maxRecDepth 20000 in
theorem az_inst0 : Cond.instantiable RX0 11 ∈ az_gw := az_inT2 37 rfl rfl
set_option maxRecDepth 20000 in
theorem az_ini0 : Cond.initialized RX0 ∈ az_gw := az_inT1 8 rfl rfl
set_option maxRecDepth 20000 in
theorem az_inst1 : Cond.instantiable RX1 2 ∈ az_gw := az_inT2 77 rfl rfl
set_option maxRecDepth 20000 in
theorem az_ini1 : Cond.initialized RX1 ∈ az_gw := az_inT1 9 rfl rfl
set_option maxRecDepth 20000 in
theorem az_inst2 : Cond.instantiable RX2 4 ∈ az_gw := az_inT1 205 rfl rfl
set_option maxRecDepth 20000 in
theorem az_ini2 : Cond.initialized RX2 ∈ az_gw := az_inT1 7 rfl rfl
set_option maxRecDepth 20000 in
theorem az_inst3 : Cond.instantiable RX3 3 ∈ az_gw := az_inT2 223 rfl rfl
set_option maxRecDepth 20000 in
theorem az_ini3 : Cond.initialized RX3 ∈ az_gw := az_inT1 12 rfl rfl
set_option maxRecDepth 20000 in
theorem az_inst4 : Cond.instantiable RX4 15 ∈ az_gw := az_inT1 199 rfl rfl
set_option maxRecDepth 20000 in
theorem az_ini4 : Cond.initialized RX4 ∈ az_gw := az_inT1 6 rfl rfl
set_option maxRecDepth 20000 in
theorem az_inst5 : Cond.instantiable RX5 16 ∈ az_gw := az_inT2 91 rfl rfl
set_option maxRecDepth 20000 in
theorem az_ini5 : Cond.initialized RX5 ∈ az_gw := az_inT1 10 rfl rfl
set_option maxRecDepth 20000 in
theorem az_inst6 : Cond.instantiable RX6 8 ∈ az_gw := az_inT1 150 rfl rfl
set_option maxRecDepth 20000 in
theorem az_ini6 : Cond.initialized RX6 ∈ az_gw := az_inT1 5 rfl rfl
set_option maxRecDepth 20000 in
theorem az_inst7 : Cond.instantiable RX7 2 ∈ az_gw := az_inT1 31 rfl rfl
set_option maxRecDepth 20000 in
theorem az_ini7 : Cond.initialized RX7 ∈ az_gw := az_inT1 3 rfl rfl
set_option maxRecDepth 20000 in
theorem az_inst8 : Cond.instantiable RX8 16 ∈ az_gw := az_inT2 157 rfl rfl
set_option maxRecDepth 20000 in
theorem az_ini8 : Cond.initialized RX8 ∈ az_gw := az_inT1 11 rfl rfl
set_option maxRecDepth 20000 in
theorem az_inst9 : Cond.instantiable RX9 17 ∈ az_gw := az_inT1 24 rfl rfl
set_option maxRecDepth 20000 in
theorem az_ini9 : Cond.initialized RX9 ∈ az_gw := az_inT1 2 rfl rfl
set_option maxRecDepth 20000 in
theorem az_inst10 : Cond.instantiable RX10 18 ∈ az_gw := az_inT1 16 rfl rfl
set_option maxRecDepth 20000 in
theorem az_ini10 : Cond.initialized RX10 ∈ az_gw := az_inT1 1 rfl rfl
set_option maxRecDepth 20000 in
theorem az_inst11 : Cond.instantiable RX11 116 ∈ az_gw := az_inT5 177 rfl rfl
set_option maxRecDepth 20000 in
theorem az_ini11 : Cond.initialized RX11 ∈ az_gw := az_inT1 13 rfl rfl
set_option maxRecDepth 20000 in
theorem az_ac_int : Cond.arrayClass .int ∈ az_gw := az_inT1 61 rfl rfl
set_option maxRecDepth 20000 in
theorem az_ac_boolean : Cond.arrayClass .boolean ∈ az_gw := az_inT1 62 rfl rfl
set_option maxRecDepth 20000 in
theorem az_ac_long : Cond.arrayClass .long ∈ az_gw := az_inT7 52 rfl rfl
set_option maxRecDepth 20000 in
theorem az_ac_byte : Cond.arrayClass .byte ∈ az_gw := az_inT7 53 rfl rfl
set_option maxRecDepth 20000 in
theorem az_w_maxst : Cond.static Lib.Math.max.name ∈ az_gw := az_inT1 37 rfl rfl
set_option maxRecDepth 20000 in
theorem az_w_minst : Cond.static Lib.Math.min.name ∈ az_gw := az_inT3 92 rfl rfl
set_option maxRecDepth 20000 in
theorem az_w_math : Cond.initialized "java/lang/Math" ∈ az_gw := az_inT1 4 rfl rfl
set_option maxRecDepth 20000 in
theorem az_w_sys : Cond.initialized "java/lang/System" ∈ az_gw := az_inT1 14 rfl rfl
set_option maxRecDepth 20000 in
theorem az_w_maxc : Cond.code Lib.Math.max.name Lib.Math.max.code 2 (some .int) ∈ az_gw := az_inT1 38 rfl rfl
set_option maxRecDepth 20000 in
theorem az_w_minc : Cond.code Lib.Math.min.name Lib.Math.min.code 2 (some .int) ∈ az_gw := az_inT3 93 rfl rfl
set_option maxRecDepth 20000 in
theorem az_w_cpn : Cond.native arraycopyName ∈ az_gw := az_inT4 157 rfl rfl
set_option maxRecDepth 20000 in
theorem az_w_cps : Cond.static arraycopyName ∈ az_gw := az_inT4 156 rfl rfl
set_option maxRecDepth 20000 in
theorem az_w_obi : Cond.instanceMethod Lib.objectInit ∈ az_gw := az_inT1 21 rfl rfl
set_option maxRecDepth 20000 in
theorem az_w_obc : Cond.code Lib.objectInit ⟨#[0xb1]⟩ 1 none ∈ az_gw := az_inT1 22 rfl rfl
set_option maxRecDepth 20000 in
theorem mt_X10_give : az_MT yX10_give cX10_give 2 (some .int) 1 := ⟨az_inT4 65 rfl rfl, az_ini10, by decide, by decide, by decide +kernel, by decide, by decide +kernel⟩
set_option maxRecDepth 20000 in
theorem mv_X10_give : az_MV yX10_give cX10_give 2 (some .int) 1 10 := ⟨mt_X10_give, az_inT4 64 rfl rfl, az_in 26 (by decide +kernel) rfl, by decide, _, _, rfl⟩
set_option maxRecDepth 20000 in
theorem mt_X10_refuse : az_MT yX10_refuse cX10_refuse 2 (some .int) 1 := ⟨az_inT3 74 rfl rfl, az_ini10, by decide, by decide, by decide +kernel, by decide, by decide +kernel⟩
set_option maxRecDepth 20000 in
theorem mv_X10_refuse : az_MV yX10_refuse cX10_refuse 2 (some .int) 1 10 := ⟨mt_X10_refuse, az_inT3 73 rfl rfl, az_in 1 (by decide +kernel) rfl, by decide, _, _, rfl⟩
set_option maxRecDepth 20000 in
theorem mt_X10_bad : az_MT yX10_bad cX10_bad 3 (some .int) 2 := ⟨az_inT4 183 rfl rfl, az_ini10, by decide, by decide, by decide +kernel, by decide, by decide +kernel⟩
set_option maxRecDepth 20000 in
theorem mv_X10_bad : az_MV yX10_bad cX10_bad 3 (some .int) 2 10 := ⟨mt_X10_bad, az_inT4 181 rfl rfl, az_inT4 182 rfl rfl, by decide, _, _, rfl⟩
set_option maxRecDepth 20000 in
theorem mt_X10_isEquation : az_MT yX10_isEquation cX10_isEquation 2 (some .boolean) 1 := ⟨az_inT4 109 rfl rfl, az_ini10, by decide, by decide, by decide +kernel, by decide, by decide +kernel⟩
set_option maxRecDepth 20000 in
theorem mv_X10_isEquation : az_MV yX10_isEquation cX10_isEquation 2 (some .boolean) 1 10 := ⟨mt_X10_isEquation, az_inT4 108 rfl rfl, az_in 27 (by decide +kernel) rfl, by decide, _, _, rfl⟩
set_option maxRecDepth 20000 in
theorem mt_X9_agree : az_MT yX9_agree cX9_agree 3 (some .boolean) 2 := ⟨az_inT4 97 rfl rfl, az_ini9, by decide, by decide, by decide +kernel, by decide, by decide +kernel⟩
set_option maxRecDepth 20000 in
theorem mv_X9_agree : az_MV yX9_agree cX9_agree 3 (some .boolean) 2 9 := ⟨mt_X9_agree, az_inT4 95 rfl rfl, az_inT4 96 rfl rfl, by decide, _, _, rfl⟩
set_option maxRecDepth 20000 in
theorem mt_X10_compatible : az_MT yX10_compatible cX10_compatible 3 (some .int) 2 := ⟨az_inT4 135 rfl rfl, az_ini10, by decide, by decide, by decide +kernel, by decide, by decide +kernel⟩
set_option maxRecDepth 20000 in
theorem mv_X10_compatible : az_MV yX10_compatible cX10_compatible 3 (some .int) 2 10 := ⟨mt_X10_compatible, az_inT4 133 rfl rfl, az_inT4 134 rfl rfl, by decide, _, _, rfl⟩
set_option maxRecDepth 20000 in
theorem mt_X7_arity : az_MT yX7_arity cX7_arity 1 (some .int) 1 := ⟨az_inT3 202 rfl rfl, az_ini7, by decide, by decide, by decide +kernel, by decide, by decide +kernel⟩
set_option maxRecDepth 20000 in
theorem ms_X7_arity : az_MS yX7_arity cX7_arity 1 (some .int) 1 := ⟨mt_X7_arity, az_inT3 201 rfl rfl⟩
set_option maxRecDepth 20000 in
theorem mt_X7_end : az_MT yX7_end cX7_end 4 (some .int) 1 := ⟨az_inT4 5 rfl rfl, az_ini7, by decide, by decide, by decide +kernel, by decide, by decide +kernel⟩
set_option maxRecDepth 20000 in
theorem mv_X7_end : az_MV yX7_end cX7_end 4 (some .int) 1 7 := ⟨mt_X7_end, az_inT4 3 rfl rfl, az_inT4 4 rfl rfl, by decide, _, _, rfl⟩
set_option maxRecDepth 20000 in
theorem mt_X7_kind : az_MT yX7_kind cX7_kind 1 (some .int) 1 := ⟨az_inT3 199 rfl rfl, az_ini7, by decide, by decide, by decide +kernel, by decide, by decide +kernel⟩
set_option maxRecDepth 20000 in
theorem ms_X7_kind : az_MS yX7_kind cX7_kind 1 (some .int) 1 := ⟨mt_X7_kind, az_inT3 198 rfl rfl⟩
set_option maxRecDepth 20000 in
theorem mt_X7_samePart : az_MT yX7_samePart cX7_samePart 7 (some .boolean) 3 := ⟨az_inT4 11 rfl rfl, az_ini7, by decide, by decide, by decide +kernel, by decide, by decide +kernel⟩
set_option maxRecDepth 20000 in
theorem mv_X7_samePart : az_MV yX7_samePart cX7_samePart 7 (some .boolean) 3 7 := ⟨mt_X7_samePart, az_inT4 9 rfl rfl, az_inT4 10 rfl rfl, by decide, _, _, rfl⟩
set_option maxRecDepth 20000 in
theorem mt_X0_lay : az_MT yX0_lay cX0_lay 15 (some .int) 4 := ⟨az_inT4 1 rfl rfl, az_ini0, by decide, by decide, by decide +kernel, by decide, by decide +kernel⟩
set_option maxRecDepth 20000 in
theorem mv_X0_lay : az_MV yX0_lay cX0_lay 15 (some .int) 4 0 := ⟨mt_X0_lay, az_inT3 239 rfl rfl, az_inT4 0 rfl rfl, by decide, _, _, rfl⟩
set_option maxRecDepth 20000 in
theorem mt_X0_isVariable : az_MT yX0_isVariable cX0_isVariable 2 (some .boolean) 1 := ⟨az_inT4 26 rfl rfl, az_ini0, by decide, by decide, by decide +kernel, by decide, by decide +kernel⟩
set_option maxRecDepth 20000 in
theorem mv_X0_isVariable : az_MV yX0_isVariable cX0_isVariable 2 (some .boolean) 1 0 := ⟨mt_X0_isVariable, az_inT4 25 rfl rfl, az_in 21 (by decide +kernel) rfl, by decide, _, _, rfl⟩
set_option maxRecDepth 20000 in
theorem mt_X0_top : az_MT yX0_top cX0_top 4 (some .int) 1 := ⟨az_inT4 22 rfl rfl, az_ini0, by decide, by decide, by decide +kernel, by decide, by decide +kernel⟩
set_option maxRecDepth 20000 in
theorem mv_X0_top : az_MV yX0_top cX0_top 4 (some .int) 1 0 := ⟨mt_X0_top, az_inT4 21 rfl rfl, az_in 20 (by decide +kernel) rfl, by decide, _, _, rfl⟩
set_option maxRecDepth 20000 in
theorem mt_X0_nameVariables : az_MT yX0_nameVariables cX0_nameVariables 7 none 1 := ⟨az_inT4 144 rfl rfl, az_ini0, by decide, by decide, by decide +kernel, by decide, by decide +kernel⟩
set_option maxRecDepth 20000 in
theorem mv_X0_nameVariables : az_MV yX0_nameVariables cX0_nameVariables 7 none 1 0 := ⟨mt_X0_nameVariables, az_inT4 142 rfl rfl, az_inT4 143 rfl rfl, by decide, _, _, rfl⟩
set_option maxRecDepth 20000 in
theorem mt_X0_clear : az_MT yX0_clear cX0_clear 1 none 0 := ⟨az_inT3 237 rfl rfl, az_ini0, by decide, by decide, by decide +kernel, by decide, by decide +kernel⟩
set_option maxRecDepth 20000 in
theorem mv_X0_clear : az_MV yX0_clear cX0_clear 1 none 0 0 := ⟨mt_X0_clear, az_inT3 235 rfl rfl, az_inT3 236 rfl rfl, by decide, _, _, rfl⟩
set_option maxRecDepth 20000 in
theorem mt_X0_kidsAreMarked : az_MT yX0_kidsAreMarked cX0_kidsAreMarked 4 (some .boolean) 1 := ⟨az_inT4 34 rfl rfl, az_ini0, by decide, by decide, by decide +kernel, by decide, by decide +kernel⟩
set_option maxRecDepth 20000 in
theorem mv_X0_kidsAreMarked : az_MV yX0_kidsAreMarked cX0_kidsAreMarked 4 (some .boolean) 1 0 := ⟨mt_X0_kidsAreMarked, az_inT4 33 rfl rfl, az_in 22 (by decide +kernel) rfl, by decide, _, _, rfl⟩
set_option maxRecDepth 20000 in
theorem mt_X0_hasCircle : az_MT yX0_hasCircle cX0_hasCircle 4 (some .boolean) 0 := ⟨az_inT4 30 rfl rfl, az_ini0, by decide, by decide, by decide +kernel, by decide, by decide +kernel⟩
set_option maxRecDepth 20000 in
theorem mv_X0_hasCircle : az_MV yX0_hasCircle cX0_hasCircle 4 (some .boolean) 0 0 := ⟨mt_X0_hasCircle, az_inT4 28 rfl rfl, az_inT4 29 rfl rfl, by decide, _, _, rfl⟩
set_option maxRecDepth 20000 in
theorem mt_X0_join : az_MT yX0_join cX0_join 11 (some .boolean) 3 := ⟨az_inT4 17 rfl rfl, az_ini0, by decide, by decide, by decide +kernel, by decide, by decide +kernel⟩
set_option maxRecDepth 20000 in
theorem mv_X0_join : az_MV yX0_join cX0_join 11 (some .boolean) 3 0 := ⟨mt_X0_join, az_inT4 15 rfl rfl, az_inT4 16 rfl rfl, by decide, _, _, rfl⟩
set_option maxRecDepth 20000 in
theorem mt_X1_meetLefts : az_MT yX1_meetLefts cX1_meetLefts 5 (some .int) 3 := ⟨az_inT3 233 rfl rfl, az_ini1, by decide, by decide, by decide +kernel, by decide, by decide +kernel⟩
set_option maxRecDepth 20000 in
theorem mv_X1_meetLefts : az_MV yX1_meetLefts cX1_meetLefts 5 (some .int) 3 1 := ⟨mt_X1_meetLefts, az_inT3 231 rfl rfl, az_inT3 232 rfl rfl, by decide, _, _, rfl⟩
set_option maxRecDepth 20000 in
theorem mt_X0_joinedCode : az_MT yX0_joinedCode cX0_joinedCode 3 (some .int) 1 := ⟨az_inT4 161 rfl rfl, az_ini0, by decide, by decide, by decide +kernel, by decide, by decide +kernel⟩
set_option maxRecDepth 20000 in
theorem mv_X0_joinedCode : az_MV yX0_joinedCode cX0_joinedCode 3 (some .int) 1 0 := ⟨mt_X0_joinedCode, az_inT4 159 rfl rfl, az_inT4 160 rfl rfl, by decide, _, _, rfl⟩
set_option maxRecDepth 20000 in
theorem mt_X0_joinedKid : az_MT yX0_joinedKid cX0_joinedKid 3 (some .int) 2 := ⟨az_inT4 175 rfl rfl, az_ini0, by decide, by decide, by decide +kernel, by decide, by decide +kernel⟩
set_option maxRecDepth 20000 in
theorem mv_X0_joinedKid : az_MV yX0_joinedKid cX0_joinedKid 3 (some .int) 2 0 := ⟨mt_X0_joinedKid, az_inT4 173 rfl rfl, az_inT4 174 rfl rfl, by decide, _, _, rfl⟩
set_option maxRecDepth 20000 in
theorem mt_X3_put : az_MT yX3_put cX3_put 3 none 1 := ⟨az_inT4 154 rfl rfl, az_ini3, by decide, by decide, by decide +kernel, by decide, by decide +kernel⟩
set_option maxRecDepth 20000 in
theorem mv_X3_put : az_MV yX3_put cX3_put 3 none 1 3 := ⟨mt_X3_put, az_inT4 153 rfl rfl, az_in 29 (by decide +kernel) rfl, by decide, _, _, rfl⟩
set_option maxRecDepth 20000 in
theorem mt_X3_putLetters : az_MT yX3_putLetters cX3_putLetters 6 none 2 := ⟨az_inT4 169 rfl rfl, az_ini3, by decide, by decide, by decide +kernel, by decide, by decide +kernel⟩
set_option maxRecDepth 20000 in
theorem mv_X3_putLetters : az_MV yX3_putLetters cX3_putLetters 6 none 2 3 := ⟨mt_X3_putLetters, az_inT4 168 rfl rfl, az_in 30 (by decide +kernel) rfl, by decide, _, _, rfl⟩
set_option maxRecDepth 20000 in
theorem mt_X7_number : az_MT yX7_number cX7_number 1 (some .int) 1 := ⟨az_inT3 217 rfl rfl, az_ini7, by decide, by decide, by decide +kernel, by decide, by decide +kernel⟩
set_option maxRecDepth 20000 in
theorem ms_X7_number : az_MS yX7_number cX7_number 1 (some .int) 1 := ⟨mt_X7_number, az_inT3 216 rfl rfl⟩
set_option maxRecDepth 20000 in
theorem mt_X9_nameOf : az_MT yX9_nameOf cX9_nameOf 3 (some .int) 1 := ⟨az_inT4 165 rfl rfl, az_ini9, by decide, by decide, by decide +kernel, by decide, by decide +kernel⟩
set_option maxRecDepth 20000 in
theorem mv_X9_nameOf : az_MV yX9_nameOf cX9_nameOf 3 (some .int) 1 9 := ⟨mt_X9_nameOf, az_inT4 163 rfl rfl, az_inT4 164 rfl rfl, by decide, _, _, rfl⟩
set_option maxRecDepth 20000 in
theorem mt_X3_putJoined : az_MT yX3_putJoined cX3_putJoined 10 none 3 := ⟨az_inT4 149 rfl rfl, az_ini3, by decide, by decide, by decide +kernel, by decide, by decide +kernel⟩
set_option maxRecDepth 20000 in
theorem mv_X3_putJoined : az_MV yX3_putJoined cX3_putJoined 10 none 3 3 := ⟨mt_X3_putJoined, az_inT4 147 rfl rfl, az_inT4 148 rfl rfl, by decide, _, _, rfl⟩
set_option maxRecDepth 20000 in
theorem mt_X10_ends : az_MT yX10_ends cX10_ends 5 (some .int) 3 := ⟨az_inT4 140 rfl rfl, az_ini10, by decide, by decide, by decide +kernel, by decide, by decide +kernel⟩
set_option maxRecDepth 20000 in
theorem mv_X10_ends : az_MV yX10_ends cX10_ends 5 (some .int) 3 10 := ⟨mt_X10_ends, az_inT4 138 rfl rfl, az_inT4 139 rfl rfl, by decide, _, _, rfl⟩
set_option maxRecDepth 20000 in
theorem mt_X9_rank : az_MT yX9_rank cX9_rank 4 (some .int) 1 := ⟨az_inT4 113 rfl rfl, az_ini9, by decide, by decide, by decide +kernel, by decide, by decide +kernel⟩
set_option maxRecDepth 20000 in
theorem mv_X9_rank : az_MV yX9_rank cX9_rank 4 (some .int) 1 9 := ⟨mt_X9_rank, az_inT4 111 rfl rfl, az_inT4 112 rfl rfl, by decide, _, _, rfl⟩
set_option maxRecDepth 20000 in
theorem mt_X7_times : az_MT yX7_times cX7_times 6 (some .int) 3 := ⟨az_inT4 126 rfl rfl, az_ini7, by decide, by decide, by decide +kernel, by decide, by decide +kernel⟩
set_option maxRecDepth 20000 in
theorem mv_X7_times : az_MV yX7_times cX7_times 6 (some .int) 3 7 := ⟨mt_X7_times, az_inT4 124 rfl rfl, az_inT4 125 rfl rfl, by decide, _, _, rfl⟩
set_option maxRecDepth 20000 in
theorem mt_X9_unboundedAt : az_MT yX9_unboundedAt cX9_unboundedAt 6 (some .int) 3 := ⟨az_inT4 122 rfl rfl, az_ini9, by decide, by decide, by decide +kernel, by decide, by decide +kernel⟩
set_option maxRecDepth 20000 in
theorem mv_X9_unboundedAt : az_MV yX9_unboundedAt cX9_unboundedAt 6 (some .int) 3 9 := ⟨mt_X9_unboundedAt, az_inT4 121 rfl rfl, az_in 28 (by decide +kernel) rfl, by decide, _, _, rfl⟩
set_option maxRecDepth 20000 in
theorem mt_X9_unbounded : az_MT yX9_unbounded cX9_unbounded 6 (some .int) 1 := ⟨az_inT4 117 rfl rfl, az_ini9, by decide, by decide, by decide +kernel, by decide, by decide +kernel⟩
set_option maxRecDepth 20000 in
theorem mv_X9_unbounded : az_MV yX9_unbounded cX9_unbounded 6 (some .int) 1 9 := ⟨mt_X9_unbounded, az_inT4 115 rfl rfl, az_inT4 116 rfl rfl, by decide, _, _, rfl⟩
set_option maxRecDepth 20000 in
theorem mt_X10_equation : az_MT yX10_equation cX10_equation 3 (some .int) 2 := ⟨az_inT4 105 rfl rfl, az_ini10, by decide, by decide, by decide +kernel, by decide, by decide +kernel⟩
set_option maxRecDepth 20000 in
theorem mv_X10_equation : az_MV yX10_equation cX10_equation 3 (some .int) 2 10 := ⟨mt_X10_equation, az_inT4 103 rfl rfl, az_inT4 104 rfl rfl, by decide, _, _, rfl⟩
set_option maxRecDepth 20000 in
theorem mt_X9_called : az_MT yX9_called cX9_called 6 (some .int) 1 := ⟨az_inT4 83 rfl rfl, az_ini9, by decide, by decide, by decide +kernel, by decide, by decide +kernel⟩
set_option maxRecDepth 20000 in
theorem mv_X9_called : az_MV yX9_called cX9_called 6 (some .int) 1 9 := ⟨mt_X9_called, az_inT4 81 rfl rfl, az_inT4 82 rfl rfl, by decide, _, _, rfl⟩
set_option maxRecDepth 20000 in
theorem mt_X9_calledAtLast : az_MT yX9_calledAtLast cX9_calledAtLast 5 (some .int) 1 := ⟨az_inT4 88 rfl rfl, az_ini9, by decide, by decide, by decide +kernel, by decide, by decide +kernel⟩
set_option maxRecDepth 20000 in
theorem mv_X9_calledAtLast : az_MV yX9_calledAtLast cX9_calledAtLast 5 (some .int) 1 9 := ⟨mt_X9_calledAtLast, az_inT4 86 rfl rfl, az_inT4 87 rfl rfl, by decide, _, _, rfl⟩
set_option maxRecDepth 20000 in
theorem mt_X9_equationsOf : az_MT yX9_equationsOf cX9_equationsOf 4 (some .int) 1 := ⟨az_inT4 47 rfl rfl, az_ini9, by decide, by decide, by decide +kernel, by decide, by decide +kernel⟩
set_option maxRecDepth 20000 in
theorem mv_X9_equationsOf : az_MV yX9_equationsOf cX9_equationsOf 4 (some .int) 1 9 := ⟨mt_X9_equationsOf, az_inT4 45 rfl rfl, az_inT4 46 rfl rfl, by decide, _, _, rfl⟩
set_option maxRecDepth 20000 in
theorem mt_X9_firstParting : az_MT yX9_firstParting cX9_firstParting 4 (some .int) 1 := ⟨az_inT4 93 rfl rfl, az_ini9, by decide, by decide, by decide +kernel, by decide, by decide +kernel⟩
set_option maxRecDepth 20000 in
theorem mv_X9_firstParting : az_MV yX9_firstParting cX9_firstParting 4 (some .int) 1 9 := ⟨mt_X9_firstParting, az_inT4 91 rfl rfl, az_inT4 92 rfl rfl, by decide, _, _, rfl⟩
set_option maxRecDepth 20000 in
theorem mt_X9_goesBackwards : az_MT yX9_goesBackwards cX9_goesBackwards 2 (some .boolean) 1 := ⟨az_inT4 101 rfl rfl, az_ini9, by decide, by decide, by decide +kernel, by decide, by decide +kernel⟩
set_option maxRecDepth 20000 in
theorem mv_X9_goesBackwards : az_MV yX9_goesBackwards cX9_goesBackwards 2 (some .boolean) 1 9 := ⟨mt_X9_goesBackwards, az_inT4 99 rfl rfl, az_inT4 100 rfl rfl, by decide, _, _, rfl⟩
set_option maxRecDepth 20000 in
theorem mt_X10_family : az_MT yX10_family cX10_family 3 (some .int) 2 := ⟨az_inT4 77 rfl rfl, az_ini10, by decide, by decide, by decide +kernel, by decide, by decide +kernel⟩
set_option maxRecDepth 20000 in
theorem mv_X10_family : az_MV yX10_family cX10_family 3 (some .int) 2 10 := ⟨mt_X10_family, az_inT4 75 rfl rfl, az_inT4 76 rfl rfl, by decide, _, _, rfl⟩
set_option maxRecDepth 20000 in
theorem mt_X10_fault : az_MT yX10_fault cX10_fault 2 (some .int) 1 := ⟨az_inT4 69 rfl rfl, az_ini10, by decide, by decide, by decide +kernel, by decide, by decide +kernel⟩
set_option maxRecDepth 20000 in
theorem mv_X10_fault : az_MV yX10_fault cX10_fault 2 (some .int) 1 10 := ⟨mt_X10_fault, az_inT4 67 rfl rfl, az_inT4 68 rfl rfl, by decide, _, _, rfl⟩
set_option maxRecDepth 20000 in
theorem mt_X10_putInt : az_MT yX10_putInt cX10_putInt 3 none 1 := ⟨az_inT3 66 rfl rfl, az_ini10, by decide, by decide, by decide +kernel, by decide, by decide +kernel⟩
set_option maxRecDepth 20000 in
theorem mv_X10_putInt : az_MV yX10_putInt cX10_putInt 3 none 1 10 := ⟨mt_X10_putInt, az_inT3 65 rfl rfl, az_in 0 (by decide +kernel) rfl, by decide, _, _, rfl⟩
set_option maxRecDepth 20000 in
theorem mt_X10_feed : az_MT yX10_feed cX10_feed 6 (some .int) 5 := ⟨az_inT3 62 rfl rfl, az_ini10, by decide, by decide, by decide +kernel, by decide, by decide +kernel⟩
set_option maxRecDepth 20000 in
theorem mv_X10_feed : az_MV yX10_feed cX10_feed 6 (some .int) 5 10 := ⟨mt_X10_feed, az_inT3 60 rfl rfl, az_inT3 61 rfl rfl, by decide, _, _, rfl⟩
set_option maxRecDepth 20000 in
theorem mt_X0_init : az_MT yX0_init cX0_init 1 none 0 := ⟨az_inT2 40 rfl rfl, az_ini0, by decide, by decide, by decide +kernel, by decide, by decide +kernel⟩
set_option maxRecDepth 20000 in
theorem mi_X0_init : az_MI yX0_init cX0_init 1 0 := ⟨mt_X0_init, az_inT2 39 rfl rfl, rfl⟩
set_option maxRecDepth 20000 in
theorem mt_X1_init : az_MT yX1_init cX1_init 2 none 1 := ⟨az_inT2 80 rfl rfl, az_ini1, by decide, by decide, by decide +kernel, by decide, by decide +kernel⟩
set_option maxRecDepth 20000 in
theorem mi_X1_init : az_MI yX1_init cX1_init 2 1 := ⟨mt_X1_init, az_inT2 79 rfl rfl, rfl⟩
set_option maxRecDepth 20000 in
theorem mt_X3_init : az_MT yX3_init cX3_init 1 none 0 := ⟨az_inT2 226 rfl rfl, az_ini3, by decide, by decide, by decide +kernel, by decide, by decide +kernel⟩
set_option maxRecDepth 20000 in
theorem mi_X3_init : az_MI yX3_init cX3_init 1 0 := ⟨mt_X3_init, az_inT2 225 rfl rfl, rfl⟩
set_option maxRecDepth 20000 in
theorem mt_X2_init : az_MT yX2_init cX2_init 1 none 0 := ⟨az_inT1 208 rfl rfl, az_ini2, by decide, by decide, by decide +kernel, by decide, by decide +kernel⟩
set_option maxRecDepth 20000 in
theorem mi_X2_init : az_MI yX2_init cX2_init 1 0 := ⟨mt_X2_init, az_inT1 207 rfl rfl, rfl⟩
set_option maxRecDepth 20000 in
theorem mt_X4_init : az_MT yX4_init cX4_init 3 none 2 := ⟨az_inT1 202 rfl rfl, az_ini4, by decide, by decide, by decide +kernel, by decide, by decide +kernel⟩
set_option maxRecDepth 20000 in
theorem mi_X4_init : az_MI yX4_init cX4_init 3 2 := ⟨mt_X4_init, az_inT1 201 rfl rfl, rfl⟩
set_option maxRecDepth 20000 in
theorem mt_X7_init : az_MT yX7_init cX7_init 2 none 1 := ⟨az_inT1 34 rfl rfl, az_ini7, by decide, by decide, by decide +kernel, by decide, by decide +kernel⟩
set_option maxRecDepth 20000 in
theorem mi_X7_init : az_MI yX7_init cX7_init 2 1 := ⟨mt_X7_init, az_inT1 33 rfl rfl, rfl⟩
set_option maxRecDepth 20000 in
theorem mt_X5_init : az_MT yX5_init cX5_init 5 none 3 := ⟨az_inT2 94 rfl rfl, az_ini5, by decide, by decide, by decide +kernel, by decide, by decide +kernel⟩
set_option maxRecDepth 20000 in
theorem mi_X5_init : az_MI yX5_init cX5_init 5 3 := ⟨mt_X5_init, az_inT2 93 rfl rfl, rfl⟩
set_option maxRecDepth 20000 in
theorem mt_X6_init : az_MT yX6_init cX6_init 2 none 0 := ⟨az_inT1 153 rfl rfl, az_ini6, by decide, by decide, by decide +kernel, by decide, by decide +kernel⟩
set_option maxRecDepth 20000 in
theorem mi_X6_init : az_MI yX6_init cX6_init 2 0 := ⟨mt_X6_init, az_inT1 152 rfl rfl, rfl⟩
set_option maxRecDepth 20000 in
theorem mt_X8_init : az_MT yX8_init cX8_init 2 none 0 := ⟨az_inT2 160 rfl rfl, az_ini8, by decide, by decide, by decide +kernel, by decide, by decide +kernel⟩
set_option maxRecDepth 20000 in
theorem mi_X8_init : az_MI yX8_init cX8_init 2 0 := ⟨mt_X8_init, az_inT2 159 rfl rfl, rfl⟩
set_option maxRecDepth 20000 in
theorem mt_X9_init : az_MT yX9_init cX9_init 2 none 0 := ⟨az_inT1 27 rfl rfl, az_ini9, by decide, by decide, by decide +kernel, by decide, by decide +kernel⟩
set_option maxRecDepth 20000 in
theorem mi_X9_init : az_MI yX9_init cX9_init 2 0 := ⟨mt_X9_init, az_inT1 26 rfl rfl, rfl⟩
set_option maxRecDepth 20000 in
theorem mt_X10_init : az_MT yX10_init cX10_init 1 none 0 := ⟨az_inT1 19 rfl rfl, az_ini10, by decide, by decide, by decide +kernel, by decide, by decide +kernel⟩
set_option maxRecDepth 20000 in
theorem mi_X10_init : az_MI yX10_init cX10_init 1 0 := ⟨mt_X10_init, az_inT1 18 rfl rfl, rfl⟩
set_option maxRecDepth 20000 in
theorem mt_X10_takeTape : az_MT yX10_takeTape cX10_takeTape 2 (some .boolean) 1 := ⟨az_inT3 221 rfl rfl, az_ini10, by decide, by decide, by decide +kernel, by decide, by decide +kernel⟩
set_option maxRecDepth 20000 in
theorem mv_X10_takeTape : az_MV yX10_takeTape cX10_takeTape 2 (some .boolean) 1 10 := ⟨mt_X10_takeTape, az_inT3 220 rfl rfl, az_in 18 (by decide +kernel) rfl, by decide, _, _, rfl⟩
set_option maxRecDepth 20000 in
theorem mt_X7_standsOutsideFamilies : az_MT yX7_standsOutsideFamilies cX7_standsOutsideFamilies 3 (some .boolean) 1 := ⟨az_inT4 51 rfl rfl, az_ini7, by decide, by decide, by decide +kernel, by decide, by decide +kernel⟩
set_option maxRecDepth 20000 in
theorem mv_X7_standsOutsideFamilies : az_MV yX7_standsOutsideFamilies cX7_standsOutsideFamilies 3 (some .boolean) 1 7 := ⟨mt_X7_standsOutsideFamilies, az_inT4 49 rfl rfl, az_inT4 50 rfl rfl, by decide, _, _, rfl⟩
set_option maxRecDepth 20000 in
theorem mt_X1_badAlone : az_MT yX1_badAlone cX1_badAlone 8 (some .int) 2 := ⟨az_inT4 42 rfl rfl, az_ini1, by decide, by decide, by decide +kernel, by decide, by decide +kernel⟩
set_option maxRecDepth 20000 in
theorem mv_X1_badAlone : az_MV yX1_badAlone cX1_badAlone 8 (some .int) 2 1 := ⟨mt_X1_badAlone, az_inT4 41 rfl rfl, az_in 24 (by decide +kernel) rfl, by decide, _, _, rfl⟩
set_option maxRecDepth 20000 in
theorem mt_X1_badTogether : az_MT yX1_badTogether cX1_badTogether 8 (some .boolean) 3 := ⟨az_inT4 57 rfl rfl, az_ini1, by decide, by decide, by decide +kernel, by decide, by decide +kernel⟩
set_option maxRecDepth 20000 in
theorem mv_X1_badTogether : az_MV yX1_badTogether cX1_badTogether 8 (some .boolean) 3 1 := ⟨mt_X1_badTogether, az_inT4 56 rfl rfl, az_in 25 (by decide +kernel) rfl, by decide, _, _, rfl⟩
set_option maxRecDepth 20000 in
theorem mt_X1_judgeBackwards : az_MT yX1_judgeBackwards cX1_judgeBackwards 5 none 2 := ⟨az_inT4 38 rfl rfl, az_ini1, by decide, by decide, by decide +kernel, by decide, by decide +kernel⟩
set_option maxRecDepth 20000 in
theorem mv_X1_judgeBackwards : az_MV yX1_judgeBackwards cX1_judgeBackwards 5 none 2 1 := ⟨mt_X1_judgeBackwards, az_inT4 37 rfl rfl, az_in 23 (by decide +kernel) rfl, by decide, _, _, rfl⟩
set_option maxRecDepth 20000 in
theorem mt_X1_rightsAgree : az_MT yX1_rightsAgree cX1_rightsAgree 7 (some .boolean) 3 := ⟨az_inT3 229 rfl rfl, az_ini1, by decide, by decide, by decide +kernel, by decide, by decide +kernel⟩
set_option maxRecDepth 20000 in
theorem mv_X1_rightsAgree : az_MV yX1_rightsAgree cX1_rightsAgree 7 (some .boolean) 3 1 := ⟨mt_X1_rightsAgree, az_inT3 228 rfl rfl, az_in 19 (by decide +kernel) rfl, by decide, _, _, rfl⟩
set_option maxRecDepth 20000 in
theorem mt_X1_judgeAll : az_MT yX1_judgeAll cX1_judgeAll 5 none 1 := ⟨az_inT3 225 rfl rfl, az_ini1, by decide, by decide, by decide +kernel, by decide, by decide +kernel⟩
set_option maxRecDepth 20000 in
theorem mv_X1_judgeAll : az_MV yX1_judgeAll cX1_judgeAll 5 none 1 1 := ⟨mt_X1_judgeAll, az_inT3 223 rfl rfl, az_inT3 224 rfl rfl, by decide, _, _, rfl⟩
set_option maxRecDepth 20000 in
theorem mt_X2_add : az_MT yX2_add cX2_add 4 none 3 := ⟨az_inT3 112 rfl rfl, az_ini2, by decide, by decide, by decide +kernel, by decide, by decide +kernel⟩
set_option maxRecDepth 20000 in
theorem mv_X2_add : az_MV yX2_add cX2_add 4 none 3 2 := ⟨mt_X2_add, az_inT3 111 rfl rfl, az_in 3 (by decide +kernel) rfl, by decide, _, _, rfl⟩
set_option maxRecDepth 20000 in
theorem mt_X2_isLower : az_MT yX2_isLower cX2_isLower 1 (some .boolean) 1 := ⟨az_inT3 99 rfl rfl, az_ini2, by decide, by decide, by decide +kernel, by decide, by decide +kernel⟩
set_option maxRecDepth 20000 in
theorem ms_X2_isLower : az_MS yX2_isLower cX2_isLower 1 (some .boolean) 1 := ⟨mt_X2_isLower, az_inT3 98 rfl rfl⟩
set_option maxRecDepth 20000 in
theorem mt_X2_isLetter : az_MT yX2_isLetter cX2_isLetter 1 (some .boolean) 1 := ⟨az_inT3 96 rfl rfl, az_ini2, by decide, by decide, by decide +kernel, by decide, by decide +kernel⟩
set_option maxRecDepth 20000 in
theorem ms_X2_isLetter : az_MS yX2_isLetter cX2_isLetter 1 (some .boolean) 1 := ⟨mt_X2_isLetter, az_inT3 95 rfl rfl⟩
set_option maxRecDepth 20000 in
theorem mt_X2_endOfLetters : az_MT yX2_endOfLetters cX2_endOfLetters 4 (some .int) 3 := ⟨az_inT3 102 rfl rfl, az_ini2, by decide, by decide, by decide +kernel, by decide, by decide +kernel⟩
set_option maxRecDepth 20000 in
theorem ms_X2_endOfLetters : az_MS yX2_endOfLetters cX2_endOfLetters 4 (some .int) 3 := ⟨mt_X2_endOfLetters, az_inT3 101 rfl rfl⟩
set_option maxRecDepth 20000 in
theorem mt_X2_isDigit : az_MT yX2_isDigit cX2_isDigit 1 (some .boolean) 1 := ⟨az_inT3 115 rfl rfl, az_ini2, by decide, by decide, by decide +kernel, by decide, by decide +kernel⟩
set_option maxRecDepth 20000 in
theorem ms_X2_isDigit : az_MS yX2_isDigit cX2_isDigit 1 (some .boolean) 1 := ⟨mt_X2_isDigit, az_inT3 114 rfl rfl⟩
set_option maxRecDepth 20000 in
theorem mt_X2_isSign : az_MT yX2_isSign cX2_isSign 1 (some .boolean) 1 := ⟨az_inT3 118 rfl rfl, az_ini2, by decide, by decide, by decide +kernel, by decide, by decide +kernel⟩
set_option maxRecDepth 20000 in
theorem ms_X2_isSign : az_MS yX2_isSign cX2_isSign 1 (some .boolean) 1 := ⟨mt_X2_isSign, az_inT3 117 rfl rfl⟩
set_option maxRecDepth 20000 in
theorem mt_X2_kindOfLetters : az_MT yX2_kindOfLetters cX2_kindOfLetters 4 (some .int) 3 := ⟨az_inT3 105 rfl rfl, az_ini2, by decide, by decide, by decide +kernel, by decide, by decide +kernel⟩
set_option maxRecDepth 20000 in
theorem ms_X2_kindOfLetters : az_MS yX2_kindOfLetters cX2_kindOfLetters 4 (some .int) 3 := ⟨mt_X2_kindOfLetters, az_inT3 104 rfl rfl⟩
set_option maxRecDepth 20000 in
theorem mt_X2_valueOfLetters : az_MT yX2_valueOfLetters cX2_valueOfLetters 5 (some .int) 3 := ⟨az_inT3 108 rfl rfl, az_ini2, by decide, by decide, by decide +kernel, by decide, by decide +kernel⟩
set_option maxRecDepth 20000 in
theorem ms_X2_valueOfLetters : az_MS yX2_valueOfLetters cX2_valueOfLetters 5 (some .int) 3 := ⟨mt_X2_valueOfLetters, az_inT3 107 rfl rfl⟩
set_option maxRecDepth 20000 in
theorem mt_X2_scan : az_MT yX2_scan cX2_scan 8 none 2 := ⟨az_inT3 90 rfl rfl, az_ini2, by decide, by decide, by decide +kernel, by decide, by decide +kernel⟩
set_option maxRecDepth 20000 in
theorem mv_X2_scan : az_MV yX2_scan cX2_scan 8 none 2 2 := ⟨mt_X2_scan, az_inT3 88 rfl rfl, az_inT3 89 rfl rfl, by decide, _, _, rfl⟩
set_option maxRecDepth 20000 in
theorem mt_X4_next : az_MT yX4_next cX4_next 1 none 0 := ⟨az_inT3 123 rfl rfl, az_ini4, by decide, by decide, by decide +kernel, by decide, by decide +kernel⟩
set_option maxRecDepth 20000 in
theorem mv_X4_next : az_MV yX4_next cX4_next 1 none 0 4 := ⟨mt_X4_next, az_inT3 122 rfl rfl, az_in 4 (by decide +kernel) rfl, by decide, _, _, rfl⟩
set_option maxRecDepth 20000 in
theorem mt_X4_begin : az_MT yX4_begin cX4_begin 4 none 3 := ⟨az_inT3 86 rfl rfl, az_ini4, by decide, by decide, by decide +kernel, by decide, by decide +kernel⟩
set_option maxRecDepth 20000 in
theorem mv_X4_begin : az_MV yX4_begin cX4_begin 4 none 3 4 := ⟨mt_X4_begin, az_inT3 85 rfl rfl, az_in 2 (by decide +kernel) rfl, by decide, _, _, rfl⟩
set_option maxRecDepth 20000 in
theorem mt_X4_fail : az_MT yX4_fail cX4_fail 2 (some .boolean) 1 := ⟨az_inT3 135 rfl rfl, az_ini4, by decide, by decide, by decide +kernel, by decide, by decide +kernel⟩
set_option maxRecDepth 20000 in
theorem mv_X4_fail : az_MV yX4_fail cX4_fail 2 (some .boolean) 1 4 := ⟨mt_X4_fail, az_inT3 134 rfl rfl, az_in 7 (by decide +kernel) rfl, by decide, _, _, rfl⟩
set_option maxRecDepth 20000 in
theorem mt_X4_isWord : az_MT yX4_isWord cX4_isWord 2 (some .boolean) 1 := ⟨az_inT3 127 rfl rfl, az_ini4, by decide, by decide, by decide +kernel, by decide, by decide +kernel⟩
set_option maxRecDepth 20000 in
theorem mv_X4_isWord : az_MV yX4_isWord cX4_isWord 2 (some .boolean) 1 4 := ⟨mt_X4_isWord, az_inT3 126 rfl rfl, az_in 5 (by decide +kernel) rfl, by decide, _, _, rfl⟩
set_option maxRecDepth 20000 in
theorem mt_X4_forgetWords : az_MT yX4_forgetWords cX4_forgetWords 2 none 1 := ⟨az_inT3 161 rfl rfl, az_ini4, by decide, by decide, by decide +kernel, by decide, by decide +kernel⟩
set_option maxRecDepth 20000 in
theorem mv_X4_forgetWords : az_MV yX4_forgetWords cX4_forgetWords 2 none 1 4 := ⟨mt_X4_forgetWords, az_inT3 160 rfl rfl, az_in 9 (by decide +kernel) rfl, by decide, _, _, rfl⟩
set_option maxRecDepth 20000 in
theorem mt_X4_closeFrames : az_MT yX4_closeFrames cX4_closeFrames 3 (some .int) 1 := ⟨az_inT3 210 rfl rfl, az_ini4, by decide, by decide, by decide +kernel, by decide, by decide +kernel⟩
set_option maxRecDepth 20000 in
theorem mv_X4_closeFrames : az_MV yX4_closeFrames cX4_closeFrames 3 (some .int) 1 4 := ⟨mt_X4_closeFrames, az_inT3 209 rfl rfl, az_in 17 (by decide +kernel) rfl, by decide, _, _, rfl⟩
set_option maxRecDepth 20000 in
theorem mt_X4_endsTerm : az_MT yX4_endsTerm cX4_endsTerm 3 (some .boolean) 1 := ⟨az_inT3 206 rfl rfl, az_ini4, by decide, by decide, by decide +kernel, by decide, by decide +kernel⟩
set_option maxRecDepth 20000 in
theorem mv_X4_endsTerm : az_MV yX4_endsTerm cX4_endsTerm 3 (some .boolean) 1 4 := ⟨mt_X4_endsTerm, az_inT3 205 rfl rfl, az_in 16 (by decide +kernel) rfl, by decide, _, _, rfl⟩
set_option maxRecDepth 20000 in
theorem mt_X4_indexOfWord : az_MT yX4_indexOfWord cX4_indexOfWord 3 (some .int) 1 := ⟨az_inT3 196 rfl rfl, az_ini4, by decide, by decide, by decide +kernel, by decide, by decide +kernel⟩
set_option maxRecDepth 20000 in
theorem mv_X4_indexOfWord : az_MV yX4_indexOfWord cX4_indexOfWord 3 (some .int) 1 4 := ⟨mt_X4_indexOfWord, az_inT3 195 rfl rfl, az_in 15 (by decide +kernel) rfl, by decide, _, _, rfl⟩
set_option maxRecDepth 20000 in
theorem mt_X4_isVariable : az_MT yX4_isVariable cX4_isVariable 1 (some .boolean) 0 := ⟨az_inT3 190 rfl rfl, az_ini4, by decide, by decide, by decide +kernel, by decide, by decide +kernel⟩
set_option maxRecDepth 20000 in
theorem mv_X4_isVariable : az_MV yX4_isVariable cX4_isVariable 1 (some .boolean) 0 4 := ⟨mt_X4_isVariable, az_inT3 189 rfl rfl, az_in 14 (by decide +kernel) rfl, by decide, _, _, rfl⟩
set_option maxRecDepth 20000 in
theorem mt_X6_unknownOf : az_MT yX6_unknownOf cX6_unknownOf 3 (some .int) 1 := ⟨az_inT3 181 rfl rfl, az_ini6, by decide, by decide, by decide +kernel, by decide, by decide +kernel⟩
set_option maxRecDepth 20000 in
theorem mv_X6_unknownOf : az_MV yX6_unknownOf cX6_unknownOf 3 (some .int) 1 6 := ⟨mt_X6_unknownOf, az_inT3 179 rfl rfl, az_inT3 180 rfl rfl, by decide, _, _, rfl⟩
set_option maxRecDepth 20000 in
theorem mt_X7_add : az_MT yX7_add cX7_add 2 (some .boolean) 1 := ⟨az_inT3 186 rfl rfl, az_ini7, by decide, by decide, by decide +kernel, by decide, by decide +kernel⟩
set_option maxRecDepth 20000 in
theorem mv_X7_add : az_MV yX7_add cX7_add 2 (some .boolean) 1 7 := ⟨mt_X7_add, az_inT3 184 rfl rfl, az_inT3 185 rfl rfl, by decide, _, _, rfl⟩
set_option maxRecDepth 20000 in
theorem mt_X7_make : az_MT yX7_make cX7_make 3 (some .int) 3 := ⟨az_inT3 147 rfl rfl, az_ini7, by decide, by decide, by decide +kernel, by decide, by decide +kernel⟩
set_option maxRecDepth 20000 in
theorem ms_X7_make : az_MS yX7_make cX7_make 3 (some .int) 3 := ⟨mt_X7_make, az_inT3 146 rfl rfl⟩
set_option maxRecDepth 20000 in
theorem mt_X4_readUnknown : az_MT yX4_readUnknown cX4_readUnknown 3 (some .boolean) 1 := ⟨az_inT3 177 rfl rfl, az_ini4, by decide, by decide, by decide +kernel, by decide, by decide +kernel⟩
set_option maxRecDepth 20000 in
theorem mv_X4_readUnknown : az_MV yX4_readUnknown cX4_readUnknown 3 (some .boolean) 1 4 := ⟨mt_X4_readUnknown, az_inT3 176 rfl rfl, az_in 13 (by decide +kernel) rfl, by decide, _, _, rfl⟩
set_option maxRecDepth 20000 in
theorem mt_X9_codeOf : az_MT yX9_codeOf cX9_codeOf 3 (some .int) 1 := ⟨az_inT3 139 rfl rfl, az_ini9, by decide, by decide, by decide +kernel, by decide, by decide +kernel⟩
set_option maxRecDepth 20000 in
theorem mv_X9_codeOf : az_MV yX9_codeOf cX9_codeOf 3 (some .int) 1 9 := ⟨mt_X9_codeOf, az_inT3 137 rfl rfl, az_inT3 138 rfl rfl, by decide, _, _, rfl⟩
set_option maxRecDepth 20000 in
theorem mt_X4_readNode : az_MT yX4_readNode cX4_readNode 7 (some .boolean) 1 := ⟨az_inT3 173 rfl rfl, az_ini4, by decide, by decide, by decide +kernel, by decide, by decide +kernel⟩
set_option maxRecDepth 20000 in
theorem mv_X4_readNode : az_MV yX4_readNode cX4_readNode 7 (some .boolean) 1 4 := ⟨mt_X4_readNode, az_inT3 172 rfl rfl, az_in 12 (by decide +kernel) rfl, by decide, _, _, rfl⟩
set_option maxRecDepth 20000 in
theorem mt_X4_readSide : az_MT yX4_readSide cX4_readSide 7 (some .boolean) 2 := ⟨az_inT3 169 rfl rfl, az_ini4, by decide, by decide, by decide +kernel, by decide, by decide +kernel⟩
set_option maxRecDepth 20000 in
theorem mv_X4_readSide : az_MV yX4_readSide cX4_readSide 7 (some .boolean) 2 4 := ⟨mt_X4_readSide, az_inT3 168 rfl rfl, az_in 11 (by decide +kernel) rfl, by decide, _, _, rfl⟩
set_option maxRecDepth 20000 in
theorem mt_X4_readBoth : az_MT yX4_readBoth cX4_readBoth 5 (some .boolean) 4 := ⟨az_inT3 165 rfl rfl, az_ini4, by decide, by decide, by decide +kernel, by decide, by decide +kernel⟩
set_option maxRecDepth 20000 in
theorem mv_X4_readBoth : az_MV yX4_readBoth cX4_readBoth 5 (some .boolean) 4 4 := ⟨mt_X4_readBoth, az_inT3 164 rfl rfl, az_in 10 (by decide +kernel) rfl, by decide, _, _, rfl⟩
set_option maxRecDepth 20000 in
theorem mt_X9_addEquation : az_MT yX9_addEquation cX9_addEquation 2 none 1 := ⟨az_inT3 214 rfl rfl, az_ini9, by decide, by decide, by decide +kernel, by decide, by decide +kernel⟩
set_option maxRecDepth 20000 in
theorem mv_X9_addEquation : az_MV yX9_addEquation cX9_addEquation 2 none 1 9 := ⟨mt_X9_addEquation, az_inT3 212 rfl rfl, az_inT3 213 rfl rfl, by decide, _, _, rfl⟩
set_option maxRecDepth 20000 in
theorem mt_X4_readEquation : az_MT yX4_readEquation cX4_readEquation 2 (some .boolean) 1 := ⟨az_inT3 157 rfl rfl, az_ini4, by decide, by decide, by decide +kernel, by decide, by decide +kernel⟩
set_option maxRecDepth 20000 in
theorem mv_X4_readEquation : az_MV yX4_readEquation cX4_readEquation 2 (some .boolean) 1 4 := ⟨mt_X4_readEquation, az_inT3 156 rfl rfl, az_in 8 (by decide +kernel) rfl, by decide, _, _, rfl⟩
set_option maxRecDepth 20000 in
theorem mt_X9_addCon : az_MT yX9_addCon cX9_addCon 3 none 2 := ⟨az_inT3 144 rfl rfl, az_ini9, by decide, by decide, by decide +kernel, by decide, by decide +kernel⟩
set_option maxRecDepth 20000 in
theorem mv_X9_addCon : az_MV yX9_addCon cX9_addCon 3 none 2 9 := ⟨mt_X9_addCon, az_inT3 142 rfl rfl, az_inT3 143 rfl rfl, by decide, _, _, rfl⟩
set_option maxRecDepth 20000 in
theorem mt_X9_addFam : az_MT yX9_addFam cX9_addFam 5 none 4 := ⟨az_inT3 151 rfl rfl, az_ini9, by decide, by decide, by decide +kernel, by decide, by decide +kernel⟩
set_option maxRecDepth 20000 in
theorem mv_X9_addFam : az_MV yX9_addFam cX9_addFam 5 none 4 9 := ⟨mt_X9_addFam, az_inT3 149 rfl rfl, az_inT3 150 rfl rfl, by decide, _, _, rfl⟩
set_option maxRecDepth 20000 in
theorem mt_X4_readHead : az_MT yX4_readHead cX4_readHead 6 (some .boolean) 2 := ⟨az_inT3 131 rfl rfl, az_ini4, by decide, by decide, by decide +kernel, by decide, by decide +kernel⟩
set_option maxRecDepth 20000 in
theorem mv_X4_readHead : az_MV yX4_readHead cX4_readHead 6 (some .boolean) 2 4 := ⟨mt_X4_readHead, az_inT3 130 rfl rfl, az_in 6 (by decide +kernel) rfl, by decide, _, _, rfl⟩
set_option maxRecDepth 20000 in
theorem mt_X9_clear : az_MT yX9_clear cX9_clear 1 none 0 := ⟨az_inT3 82 rfl rfl, az_ini9, by decide, by decide, by decide +kernel, by decide, by decide +kernel⟩
set_option maxRecDepth 20000 in
theorem mv_X9_clear : az_MV yX9_clear cX9_clear 1 none 0 9 := ⟨mt_X9_clear, az_inT3 80 rfl rfl, az_inT3 81 rfl rfl, by decide, _, _, rfl⟩
set_option maxRecDepth 20000 in
theorem mt_X4_readTold : az_MT yX4_readTold cX4_readTold 6 (some .boolean) 3 := ⟨az_inT3 78 rfl rfl, az_ini4, by decide, by decide, by decide +kernel, by decide, by decide +kernel⟩
set_option maxRecDepth 20000 in
theorem mv_X4_readTold : az_MV yX4_readTold cX4_readTold 6 (some .boolean) 3 4 := ⟨mt_X4_readTold, az_inT3 76 rfl rfl, az_inT3 77 rfl rfl, by decide, _, _, rfl⟩
set_option maxRecDepth 20000 in
theorem mt_X8_forget : az_MT yX8_forget cX8_forget 1 none 0 := ⟨az_inT4 61 rfl rfl, az_ini8, by decide, by decide, by decide +kernel, by decide, by decide +kernel⟩
set_option maxRecDepth 20000 in
theorem mv_X8_forget : az_MV yX8_forget cX8_forget 1 none 0 8 := ⟨mt_X8_forget, az_inT4 59 rfl rfl, az_inT4 60 rfl rfl, by decide, _, _, rfl⟩
set_option maxRecDepth 20000 in
theorem mt_X10_load : az_MT yX10_load cX10_load 4 (some .int) 1 := ⟨az_inT3 70 rfl rfl, az_ini10, by decide, by decide, by decide +kernel, by decide, by decide +kernel⟩
set_option maxRecDepth 20000 in
theorem mv_X10_load : az_MV yX10_load cX10_load 4 (some .int) 1 10 := ⟨mt_X10_load, az_inT3 68 rfl rfl, az_inT3 69 rfl rfl, by decide, _, _, rfl⟩
set_option maxRecDepth 20000 in
theorem mt_X10_many : az_MT yX10_many cX10_many 2 (some .int) 1 := ⟨az_inT4 73 rfl rfl, az_ini10, by decide, by decide, by decide +kernel, by decide, by decide +kernel⟩
set_option maxRecDepth 20000 in
theorem mv_X10_many : az_MV yX10_many cX10_many 2 (some .int) 1 10 := ⟨mt_X10_many, az_inT4 71 rfl rfl, az_inT4 72 rfl rfl, by decide, _, _, rfl⟩
set_option maxRecDepth 20000 in
theorem mt_X10_meets : az_MT yX10_meets cX10_meets 3 (some .int) 2 := ⟨az_inT4 130 rfl rfl, az_ini10, by decide, by decide, by decide +kernel, by decide, by decide +kernel⟩
set_option maxRecDepth 20000 in
theorem mv_X10_meets : az_MV yX10_meets cX10_meets 3 (some .int) 2 10 := ⟨mt_X10_meets, az_inT4 128 rfl rfl, az_inT4 129 rfl rfl, by decide, _, _, rfl⟩
set_option maxRecDepth 20000 in
theorem mt_X10_termVariable : az_MT yX10_termVariable cX10_termVariable 3 (some .int) 1 := ⟨az_inT5 9 rfl rfl, az_ini10, by decide, by decide, by decide +kernel, by decide, by decide +kernel⟩
set_option maxRecDepth 20000 in
theorem mv_X10_termVariable : az_MV yX10_termVariable cX10_termVariable 3 (some .int) 1 10 := ⟨mt_X10_termVariable, az_inT5 8 rfl rfl, az_in 32 (by decide +kernel) rfl, by decide, _, _, rfl⟩
set_option maxRecDepth 20000 in
theorem mt_X5_firstStill : az_MT yX5_firstStill cX5_firstStill 8 (some .int) 3 := ⟨az_inT4 236 rfl rfl, az_ini5, by decide, by decide, by decide +kernel, by decide, by decide +kernel⟩
set_option maxRecDepth 20000 in
theorem mv_X5_firstStill : az_MV yX5_firstStill cX5_firstStill 8 (some .int) 3 5 := ⟨mt_X5_firstStill, az_inT4 234 rfl rfl, az_inT4 235 rfl rfl, by decide, _, _, rfl⟩
set_option maxRecDepth 20000 in
theorem mt_X5_fits : az_MT yX5_fits cX5_fits 9 (some .boolean) 3 := ⟨az_inT4 230 rfl rfl, az_ini5, by decide, by decide, by decide +kernel, by decide, by decide +kernel⟩
set_option maxRecDepth 20000 in
theorem mv_X5_fits : az_MV yX5_fits cX5_fits 9 (some .boolean) 3 5 := ⟨mt_X5_fits, az_inT4 228 rfl rfl, az_inT4 229 rfl rfl, by decide, _, _, rfl⟩
set_option maxRecDepth 20000 in
theorem mt_X5_firingAt : az_MT yX5_firingAt cX5_firingAt 5 (some .int) 2 := ⟨az_inT4 226 rfl rfl, az_ini5, by decide, by decide, by decide +kernel, by decide, by decide +kernel⟩
set_option maxRecDepth 20000 in
theorem mv_X5_firingAt : az_MV yX5_firingAt cX5_firingAt 5 (some .int) 2 5 := ⟨mt_X5_firingAt, az_inT4 224 rfl rfl, az_inT4 225 rfl rfl, by decide, _, _, rfl⟩
set_option maxRecDepth 20000 in
theorem mt_X7_depth : az_MT yX7_depth cX7_depth 4 (some .int) 1 := ⟨az_inT4 213 rfl rfl, az_ini7, by decide, by decide, by decide +kernel, by decide, by decide +kernel⟩
set_option maxRecDepth 20000 in
theorem mv_X7_depth : az_MV yX7_depth cX7_depth 4 (some .int) 1 7 := ⟨mt_X7_depth, az_inT4 211 rfl rfl, az_inT4 212 rfl rfl, by decide, _, _, rfl⟩
set_option maxRecDepth 20000 in
theorem mt_X10_node : az_MT yX10_node cX10_node 4 (some .int) 2 := ⟨az_inT5 4 rfl rfl, az_ini10, by decide, by decide, by decide +kernel, by decide, by decide +kernel⟩
set_option maxRecDepth 20000 in
theorem mv_X10_node : az_MV yX10_node cX10_node 4 (some .int) 2 10 := ⟨mt_X10_node, az_inT5 2 rfl rfl, az_inT5 3 rfl rfl, by decide, _, _, rfl⟩
set_option maxRecDepth 20000 in
theorem mt_X10_deepest : az_MT yX10_deepest cX10_deepest 3 (some .int) 0 := ⟨az_inT4 209 rfl rfl, az_ini10, by decide, by decide, by decide +kernel, by decide, by decide +kernel⟩
set_option maxRecDepth 20000 in
theorem mv_X10_deepest : az_MV yX10_deepest cX10_deepest 3 (some .int) 0 10 := ⟨mt_X10_deepest, az_inT4 208 rfl rfl, az_in 31 (by decide +kernel) rfl, by decide, _, _, rfl⟩
set_option maxRecDepth 20000 in
theorem mt_X5_firingPlaces : az_MT yX5_firingPlaces cX5_firingPlaces 4 (some .int) 1 := ⟨az_inT4 222 rfl rfl, az_ini5, by decide, by decide, by decide +kernel, by decide, by decide +kernel⟩
set_option maxRecDepth 20000 in
theorem mv_X5_firingPlaces : az_MV yX5_firingPlaces cX5_firingPlaces 4 (some .int) 1 5 := ⟨mt_X5_firingPlaces, az_inT4 220 rfl rfl, az_inT4 221 rfl rfl, by decide, _, _, rfl⟩
set_option maxRecDepth 20000 in
theorem mt_X7_families : az_MT yX7_families cX7_families 3 (some .int) 0 := ⟨az_inT4 218 rfl rfl, az_ini7, by decide, by decide, by decide +kernel, by decide, by decide +kernel⟩
set_option maxRecDepth 20000 in
theorem mv_X7_families : az_MV yX7_families cX7_families 3 (some .int) 0 7 := ⟨mt_X7_families, az_inT4 216 rfl rfl, az_inT4 217 rfl rfl, by decide, _, _, rfl⟩
set_option maxRecDepth 20000 in
theorem mt_X10_now : az_MT yX10_now cX10_now 2 (some .int) 1 := ⟨az_inT4 205 rfl rfl, az_ini10, by decide, by decide, by decide +kernel, by decide, by decide +kernel⟩
set_option maxRecDepth 20000 in
theorem mv_X10_now : az_MV yX10_now cX10_now 2 (some .int) 1 10 := ⟨mt_X10_now, az_inT4 203 rfl rfl, az_inT4 204 rfl rfl, by decide, _, _, rfl⟩
set_option maxRecDepth 20000 in
theorem mt_X10_out : az_MT yX10_out cX10_out 2 (some .int) 1 := ⟨az_inT5 92 rfl rfl, az_ini10, by decide, by decide, by decide +kernel, by decide, by decide +kernel⟩
set_option maxRecDepth 20000 in
theorem mv_X10_out : az_MV yX10_out cX10_out 2 (some .int) 1 10 := ⟨mt_X10_out, az_inT5 90 rfl rfl, az_inT5 91 rfl rfl, by decide, _, _, rfl⟩
set_option maxRecDepth 20000 in
theorem mt_X10_parts : az_MT yX10_parts cX10_parts 4 (some .int) 2 := ⟨az_inT4 179 rfl rfl, az_ini10, by decide, by decide, by decide +kernel, by decide, by decide +kernel⟩
set_option maxRecDepth 20000 in
theorem mv_X10_parts : az_MV yX10_parts cX10_parts 4 (some .int) 2 10 := ⟨mt_X10_parts, az_inT4 177 rfl rfl, az_inT4 178 rfl rfl, by decide, _, _, rfl⟩
set_option maxRecDepth 20000 in
theorem mt_X10_period : az_MT yX10_period cX10_period 1 (some .int) 0 := ⟨az_inT5 74 rfl rfl, az_ini10, by decide, by decide, by decide +kernel, by decide, by decide +kernel⟩
set_option maxRecDepth 20000 in
theorem mv_X10_period : az_MV yX10_period cX10_period 1 (some .int) 0 10 := ⟨mt_X10_period, az_inT5 72 rfl rfl, az_inT5 73 rfl rfl, by decide, _, _, rfl⟩
set_option maxRecDepth 20000 in
theorem mt_X3_putCode : az_MT yX3_putCode cX3_putCode 5 none 3 := ⟨az_inT5 86 rfl rfl, az_ini3, by decide, by decide, by decide +kernel, by decide, by decide +kernel⟩
set_option maxRecDepth 20000 in
theorem mv_X3_putCode : az_MV yX3_putCode cX3_putCode 5 none 3 3 := ⟨mt_X3_putCode, az_inT5 85 rfl rfl, az_in 35 (by decide +kernel) rfl, by decide, _, _, rfl⟩
set_option maxRecDepth 20000 in
theorem mt_X3_putRow : az_MT yX3_putRow cX3_putRow 8 none 3 := ⟨az_inT5 82 rfl rfl, az_ini3, by decide, by decide, by decide +kernel, by decide, by decide +kernel⟩
set_option maxRecDepth 20000 in
theorem mv_X3_putRow : az_MV yX3_putRow cX3_putRow 8 none 3 3 := ⟨mt_X3_putRow, az_inT5 80 rfl rfl, az_inT5 81 rfl rfl, by decide, _, _, rfl⟩
set_option maxRecDepth 20000 in
theorem mt_X10_print : az_MT yX10_print cX10_print 1 (some .int) 0 := ⟨az_inT5 78 rfl rfl, az_ini10, by decide, by decide, by decide +kernel, by decide, by decide +kernel⟩
set_option maxRecDepth 20000 in
theorem mv_X10_print : az_MV yX10_print cX10_print 1 (some .int) 0 10 := ⟨mt_X10_print, az_inT5 76 rfl rfl, az_inT5 77 rfl rfl, by decide, _, _, rfl⟩
set_option maxRecDepth 20000 in
theorem mt_X5_givenAt : az_MT yX5_givenAt cX5_givenAt 3 (some .int) 1 := ⟨az_inT5 43 rfl rfl, az_ini5, by decide, by decide, by decide +kernel, by decide, by decide +kernel⟩
set_option maxRecDepth 20000 in
theorem mv_X5_givenAt : az_MV yX5_givenAt cX5_givenAt 3 (some .int) 1 5 := ⟨mt_X5_givenAt, az_inT5 42 rfl rfl, az_in 34 (by decide +kernel) rfl, by decide, _, _, rfl⟩
set_option maxRecDepth 20000 in
theorem mt_X5_orderPlaces : az_MT yX5_orderPlaces cX5_orderPlaces 6 none 1 := ⟨az_inT5 37 rfl rfl, az_ini5, by decide, by decide, by decide +kernel, by decide, by decide +kernel⟩
set_option maxRecDepth 20000 in
theorem mv_X5_orderPlaces : az_MV yX5_orderPlaces cX5_orderPlaces 6 none 1 5 := ⟨mt_X5_orderPlaces, az_inT5 36 rfl rfl, az_in 33 (by decide +kernel) rfl, by decide, _, _, rfl⟩
set_option maxRecDepth 20000 in
theorem mt_X5_findPlace : az_MT yX5_findPlace cX5_findPlace 3 (some .boolean) 1 := ⟨az_inT5 33 rfl rfl, az_ini5, by decide, by decide, by decide +kernel, by decide, by decide +kernel⟩
set_option maxRecDepth 20000 in
theorem mv_X5_findPlace : az_MV yX5_findPlace cX5_findPlace 3 (some .boolean) 1 5 := ⟨mt_X5_findPlace, az_inT5 31 rfl rfl, az_inT5 32 rfl rfl, by decide, _, _, rfl⟩
set_option maxRecDepth 20000 in
theorem mt_X7_addPart : az_MT yX7_addPart cX7_addPart 5 (some .boolean) 3 := ⟨az_inT4 199 rfl rfl, az_ini7, by decide, by decide, by decide +kernel, by decide, by decide +kernel⟩
set_option maxRecDepth 20000 in
theorem mv_X7_addPart : az_MV yX7_addPart cX7_addPart 5 (some .boolean) 3 7 := ⟨mt_X7_addPart, az_inT4 197 rfl rfl, az_inT4 198 rfl rfl, by decide, _, _, rfl⟩
set_option maxRecDepth 20000 in
theorem mt_X7_take : az_MT yX7_take cX7_take 2 none 1 := ⟨az_inT4 195 rfl rfl, az_ini7, by decide, by decide, by decide +kernel, by decide, by decide +kernel⟩
set_option maxRecDepth 20000 in
theorem mv_X7_take : az_MV yX7_take cX7_take 2 none 1 7 := ⟨mt_X7_take, az_inT4 193 rfl rfl, az_inT4 194 rfl rfl, by decide, _, _, rfl⟩
set_option maxRecDepth 20000 in
theorem mt_X5_rewrite : az_MT yX5_rewrite cX5_rewrite 7 (some .boolean) 0 := ⟨az_inT5 47 rfl rfl, az_ini5, by decide, by decide, by decide +kernel, by decide, by decide +kernel⟩
set_option maxRecDepth 20000 in
theorem mv_X5_rewrite : az_MV yX5_rewrite cX5_rewrite 7 (some .boolean) 0 5 := ⟨mt_X5_rewrite, az_inT5 45 rfl rfl, az_inT5 46 rfl rfl, by decide, _, _, rfl⟩
set_option maxRecDepth 20000 in
theorem mt_X7_same : az_MT yX7_same cX7_same 2 (some .boolean) 1 := ⟨az_inT5 64 rfl rfl, az_ini7, by decide, by decide, by decide +kernel, by decide, by decide +kernel⟩
set_option maxRecDepth 20000 in
theorem mv_X7_same : az_MV yX7_same cX7_same 2 (some .boolean) 1 7 := ⟨mt_X7_same, az_inT5 62 rfl rfl, az_inT5 63 rfl rfl, by decide, _, _, rfl⟩
set_option maxRecDepth 20000 in
theorem mt_X5_reduceAll : az_MT yX5_reduceAll cX5_reduceAll 4 (some .int) 1 := ⟨az_inT5 58 rfl rfl, az_ini5, by decide, by decide, by decide +kernel, by decide, by decide +kernel⟩
set_option maxRecDepth 20000 in
theorem mv_X5_reduceAll : az_MV yX5_reduceAll cX5_reduceAll 4 (some .int) 1 5 := ⟨mt_X5_reduceAll, az_inT5 56 rfl rfl, az_inT5 57 rfl rfl, by decide, _, _, rfl⟩
set_option maxRecDepth 20000 in
theorem mt_X10_reduce : az_MT yX10_reduce cX10_reduce 3 (some .int) 1 := ⟨az_inT5 54 rfl rfl, az_ini10, by decide, by decide, by decide +kernel, by decide, by decide +kernel⟩
set_option maxRecDepth 20000 in
theorem mv_X10_reduce : az_MV yX10_reduce cX10_reduce 3 (some .int) 1 10 := ⟨mt_X10_reduce, az_inT5 52 rfl rfl, az_inT5 53 rfl rfl, by decide, _, _, rfl⟩
set_option maxRecDepth 20000 in
theorem mt_X10_status : az_MT yX10_status cX10_status 1 (some .int) 0 := ⟨az_inT3 58 rfl rfl, az_ini10, by decide, by decide, by decide +kernel, by decide, by decide +kernel⟩
set_option maxRecDepth 20000 in
theorem mv_X10_status : az_MV yX10_status cX10_status 1 (some .int) 0 10 := ⟨mt_X10_status, az_inT3 56 rfl rfl, az_inT3 57 rfl rfl, by decide, _, _, rfl⟩
set_option maxRecDepth 20000 in
theorem mt_X10_step : az_MT yX10_step cX10_step 2 (some .int) 1 := ⟨az_inT5 29 rfl rfl, az_ini10, by decide, by decide, by decide +kernel, by decide, by decide +kernel⟩
set_option maxRecDepth 20000 in
theorem mv_X10_step : az_MV yX10_step cX10_step 2 (some .int) 1 10 := ⟨mt_X10_step, az_inT5 27 rfl rfl, az_inT5 28 rfl rfl, by decide, _, _, rfl⟩
set_option maxRecDepth 20000 in
theorem mt_X5_reason : az_MT yX5_reason cX5_reason 4 (some .int) 3 := ⟨az_inT5 20 rfl rfl, az_ini5, by decide, by decide, by decide +kernel, by decide, by decide +kernel⟩
set_option maxRecDepth 20000 in
theorem mv_X5_reason : az_MV yX5_reason cX5_reason 4 (some .int) 3 5 := ⟨mt_X5_reason, az_inT5 18 rfl rfl, az_inT5 19 rfl rfl, by decide, _, _, rfl⟩
set_option maxRecDepth 20000 in
theorem mt_X10_still : az_MT yX10_still cX10_still 3 (some .int) 2 := ⟨az_inT5 24 rfl rfl, az_ini10, by decide, by decide, by decide +kernel, by decide, by decide +kernel⟩
set_option maxRecDepth 20000 in
theorem mv_X10_still : az_MV yX10_still cX10_still 3 (some .int) 2 10 := ⟨mt_X10_still, az_inT5 22 rfl rfl, az_inT5 23 rfl rfl, by decide, _, _, rfl⟩
set_option maxRecDepth 20000 in
theorem mt_X4_readWhole : az_MT yX4_readWhole cX4_readWhole 5 (some .boolean) 4 := ⟨az_inT4 191 rfl rfl, az_ini4, by decide, by decide, by decide +kernel, by decide, by decide +kernel⟩
set_option maxRecDepth 20000 in
theorem mv_X4_readWhole : az_MV yX4_readWhole cX4_readWhole 5 (some .boolean) 4 4 := ⟨mt_X4_readWhole, az_inT4 189 rfl rfl, az_inT4 190 rfl rfl, by decide, _, _, rfl⟩
set_option maxRecDepth 20000 in
theorem mt_X10_term : az_MT yX10_term cX10_term 3 (some .int) 1 := ⟨az_inT4 187 rfl rfl, az_ini10, by decide, by decide, by decide +kernel, by decide, by decide +kernel⟩
set_option maxRecDepth 20000 in
theorem mv_X10_term : az_MV yX10_term cX10_term 3 (some .int) 1 10 := ⟨mt_X10_term, az_inT4 185 rfl rfl, az_inT4 186 rfl rfl, by decide, _, _, rfl⟩
set_option maxRecDepth 20000 in
theorem mt_X8_isBound : az_MT yX8_isBound cX8_isBound 2 (some .boolean) 1 := ⟨az_inT5 137 rfl rfl, az_ini8, by decide, by decide, by decide +kernel, by decide, by decide +kernel⟩
set_option maxRecDepth 20000 in
theorem mv_X8_isBound : az_MV yX8_isBound cX8_isBound 2 (some .boolean) 1 8 := ⟨mt_X8_isBound, az_inT5 135 rfl rfl, az_inT5 136 rfl rfl, by decide, _, _, rfl⟩
set_option maxRecDepth 20000 in
theorem mt_X8_expand : az_MT yX8_expand cX8_expand 10 (some .boolean) 2 := ⟨az_inT5 130 rfl rfl, az_ini8, by decide, by decide, by decide +kernel, by decide, by decide +kernel⟩
set_option maxRecDepth 20000 in
theorem mv_X8_expand : az_MV yX8_expand cX8_expand 10 (some .boolean) 2 8 := ⟨mt_X8_expand, az_inT5 128 rfl rfl, az_inT5 129 rfl rfl, by decide, _, _, rfl⟩
set_option maxRecDepth 20000 in
theorem mt_X10_unknown : az_MT yX10_unknown cX10_unknown 2 (some .int) 1 := ⟨az_inT5 173 rfl rfl, az_ini10, by decide, by decide, by decide +kernel, by decide, by decide +kernel⟩
set_option maxRecDepth 20000 in
theorem mv_X10_unknown : az_MV yX10_unknown cX10_unknown 2 (some .int) 1 10 := ⟨mt_X10_unknown, az_inT5 171 rfl rfl, az_inT5 172 rfl rfl, by decide, _, _, rfl⟩
set_option maxRecDepth 20000 in
theorem mt_X4_readGiven : az_MT yX4_readGiven cX4_readGiven 2 (some .boolean) 1 := ⟨az_inT5 108 rfl rfl, az_ini4, by decide, by decide, by decide +kernel, by decide, by decide +kernel⟩
set_option maxRecDepth 20000 in
theorem mv_X4_readGiven : az_MV yX4_readGiven cX4_readGiven 2 (some .boolean) 1 4 := ⟨mt_X4_readGiven, az_inT5 107 rfl rfl, az_in 36 (by decide +kernel) rfl, by decide, _, _, rfl⟩
set_option maxRecDepth 20000 in
theorem mt_X4_readWant : az_MT yX4_readWant cX4_readWant 2 (some .boolean) 1 := ⟨az_inT5 112 rfl rfl, az_ini4, by decide, by decide, by decide +kernel, by decide, by decide +kernel⟩
set_option maxRecDepth 20000 in
theorem mv_X4_readWant : az_MV yX4_readWant cX4_readWant 2 (some .boolean) 1 4 := ⟨mt_X4_readWant, az_inT5 111 rfl rfl, az_in 37 (by decide +kernel) rfl, by decide, _, _, rfl⟩
set_option maxRecDepth 20000 in
theorem mt_X6_clear : az_MT yX6_clear cX6_clear 1 none 0 := ⟨az_inT5 104 rfl rfl, az_ini6, by decide, by decide, by decide +kernel, by decide, by decide +kernel⟩
set_option maxRecDepth 20000 in
theorem mv_X6_clear : az_MV yX6_clear cX6_clear 1 none 0 6 := ⟨mt_X6_clear, az_inT5 102 rfl rfl, az_inT5 103 rfl rfl, by decide, _, _, rfl⟩
set_option maxRecDepth 20000 in
theorem mt_X4_readRequest : az_MT yX4_readRequest cX4_readRequest 6 (some .boolean) 3 := ⟨az_inT5 100 rfl rfl, az_ini4, by decide, by decide, by decide +kernel, by decide, by decide +kernel⟩
set_option maxRecDepth 20000 in
theorem mv_X4_readRequest : az_MV yX4_readRequest cX4_readRequest 6 (some .boolean) 3 4 := ⟨mt_X4_readRequest, az_inT5 98 rfl rfl, az_inT5 99 rfl rfl, by decide, _, _, rfl⟩
set_option maxRecDepth 20000 in
theorem mt_X8_begin : az_MT yX8_begin cX8_begin 4 none 1 := ⟨az_inT5 116 rfl rfl, az_ini8, by decide, by decide, by decide +kernel, by decide, by decide +kernel⟩
set_option maxRecDepth 20000 in
theorem mv_X8_begin : az_MV yX8_begin cX8_begin 4 none 1 8 := ⟨mt_X8_begin, az_inT5 114 rfl rfl, az_inT5 115 rfl rfl, by decide, _, _, rfl⟩
set_option maxRecDepth 20000 in
theorem mt_X8_goesOn : az_MT yX8_goesOn cX8_goesOn 1 (some .boolean) 0 := ⟨az_inT5 122 rfl rfl, az_ini8, by decide, by decide, by decide +kernel, by decide, by decide +kernel⟩
set_option maxRecDepth 20000 in
theorem mv_X8_goesOn : az_MV yX8_goesOn cX8_goesOn 1 (some .boolean) 0 8 := ⟨mt_X8_goesOn, az_inT5 120 rfl rfl, az_inT5 121 rfl rfl, by decide, _, _, rfl⟩
set_option maxRecDepth 20000 in
theorem mt_X8_remove : az_MT yX8_remove cX8_remove 4 none 1 := ⟨az_inT5 165 rfl rfl, az_ini8, by decide, by decide, by decide +kernel, by decide, by decide +kernel⟩
set_option maxRecDepth 20000 in
theorem mv_X8_remove : az_MV yX8_remove cX8_remove 4 none 1 8 := ⟨mt_X8_remove, az_inT5 164 rfl rfl, az_in 41 (by decide +kernel) rfl, by decide, _, _, rfl⟩
set_option maxRecDepth 20000 in
theorem mt_X8_become : az_MT yX8_become cX8_become 4 (some .int) 2 := ⟨az_inT5 148 rfl rfl, az_ini8, by decide, by decide, by decide +kernel, by decide, by decide +kernel⟩
set_option maxRecDepth 20000 in
theorem mv_X8_become : az_MV yX8_become cX8_become 4 (some .int) 2 8 := ⟨mt_X8_become, az_inT5 147 rfl rfl, az_in 39 (by decide +kernel) rfl, by decide, _, _, rfl⟩
set_option maxRecDepth 20000 in
theorem mt_X7_takePart : az_MT yX7_takePart cX7_takePart 3 none 2 := ⟨az_inT5 159 rfl rfl, az_ini7, by decide, by decide, by decide +kernel, by decide, by decide +kernel⟩
set_option maxRecDepth 20000 in
theorem mv_X7_takePart : az_MV yX7_takePart cX7_takePart 3 none 2 7 := ⟨mt_X7_takePart, az_inT5 157 rfl rfl, az_inT5 158 rfl rfl, by decide, _, _, rfl⟩
set_option maxRecDepth 20000 in
theorem mt_X8_takeApart : az_MT yX8_takeApart cX8_takeApart 9 (some .int) 1 := ⟨az_inT5 154 rfl rfl, az_ini8, by decide, by decide, by decide +kernel, by decide, by decide +kernel⟩
set_option maxRecDepth 20000 in
theorem mv_X8_takeApart : az_MV yX8_takeApart cX8_takeApart 9 (some .int) 1 8 := ⟨mt_X8_takeApart, az_inT5 153 rfl rfl, az_in 40 (by decide +kernel) rfl, by decide, _, _, rfl⟩
set_option maxRecDepth 20000 in
theorem mt_X8_settle : az_MT yX8_settle cX8_settle 7 (some .int) 2 := ⟨az_inT5 143 rfl rfl, az_ini8, by decide, by decide, by decide +kernel, by decide, by decide +kernel⟩
set_option maxRecDepth 20000 in
theorem mv_X8_settle : az_MV yX8_settle cX8_settle 7 (some .int) 2 8 := ⟨mt_X8_settle, az_inT5 142 rfl rfl, az_in 38 (by decide +kernel) rfl, by decide, _, _, rfl⟩
set_option maxRecDepth 20000 in
theorem mt_X8_oneRound : az_MT yX8_oneRound cX8_oneRound 8 none 2 := ⟨az_inT5 126 rfl rfl, az_ini8, by decide, by decide, by decide +kernel, by decide, by decide +kernel⟩
set_option maxRecDepth 20000 in
theorem mv_X8_oneRound : az_MV yX8_oneRound cX8_oneRound 8 none 2 8 := ⟨mt_X8_oneRound, az_inT5 124 rfl rfl, az_inT5 125 rfl rfl, by decide, _, _, rfl⟩
set_option maxRecDepth 20000 in
theorem mt_X10_want : az_MT yX10_want cX10_want 4 (some .int) 1 := ⟨az_inT5 96 rfl rfl, az_ini10, by decide, by decide, by decide +kernel, by decide, by decide +kernel⟩
set_option maxRecDepth 20000 in
theorem mv_X10_want : az_MV yX10_want cX10_want 4 (some .int) 1 10 := ⟨mt_X10_want, az_inT5 94 rfl rfl, az_inT5 95 rfl rfl, by decide, _, _, rfl⟩
set_option maxRecDepth 20000 in
theorem mt_X10_wanted : az_MT yX10_wanted cX10_wanted 2 (some .int) 1 := ⟨az_inT5 169 rfl rfl, az_ini10, by decide, by decide, by decide +kernel, by decide, by decide +kernel⟩
set_option maxRecDepth 20000 in
theorem mv_X10_wanted : az_MV yX10_wanted cX10_wanted 2 (some .int) 1 10 := ⟨mt_X10_wanted, az_inT5 167 rfl rfl, az_inT5 168 rfl rfl, by decide, _, _, rfl⟩
set_option maxRecDepth 20000 in
theorem mt_X10_why : az_MT yX10_why cX10_why 3 (some .int) 2 := ⟨az_inT5 16 rfl rfl, az_ini10, by decide, by decide, by decide +kernel, by decide, by decide +kernel⟩
set_option maxRecDepth 20000 in
theorem mv_X10_why : az_MV yX10_why cX10_why 3 (some .int) 2 10 := ⟨mt_X10_why, az_inT5 14 rfl rfl, az_inT5 15 rfl rfl, by decide, _, _, rfl⟩
set_option maxRecDepth 20000 in
theorem mt_X10_would : az_MT yX10_would cX10_would 5 (some .int) 2 := ⟨az_inT5 69 rfl rfl, az_ini10, by decide, by decide, by decide +kernel, by decide, by decide +kernel⟩
set_option maxRecDepth 20000 in
theorem mv_X10_would : az_MV yX10_would cX10_would 5 (some .int) 2 10 := ⟨mt_X10_would, az_inT5 67 rfl rfl, az_inT5 68 rfl rfl, by decide, _, _, rfl⟩
set_option maxRecDepth 20000 in
theorem mt_X11_gives : az_MT yX11_gives cX11_gives 2 (some .int) 1 := ⟨az_inT8 23 rfl rfl, az_ini11, by decide, by decide, by decide +kernel, by decide, by decide +kernel⟩
set_option maxRecDepth 20000 in
theorem mv_X11_gives : az_MV yX11_gives cX11_gives 2 (some .int) 1 11 := ⟨mt_X11_gives, az_inT8 22 rfl rfl, az_in 83 (by decide +kernel) rfl, by decide, _, _, rfl⟩
set_option maxRecDepth 20000 in
theorem mt_X11_find : az_MT yX11_find cX11_find 3 (some .int) 1 := ⟨az_inT8 7 rfl rfl, az_ini11, by decide, by decide, by decide +kernel, by decide, by decide +kernel⟩
set_option maxRecDepth 20000 in
theorem mv_X11_find : az_MV yX11_find cX11_find 3 (some .int) 1 11 := ⟨mt_X11_find, az_inT8 6 rfl rfl, az_in 79 (by decide +kernel) rfl, by decide, _, _, rfl⟩
set_option maxRecDepth 20000 in
theorem mt_X11_isVar : az_MT yX11_isVar cX11_isVar 1 (some .boolean) 1 := ⟨az_inT7 177 rfl rfl, az_ini11, by decide, by decide, by decide +kernel, by decide, by decide +kernel⟩
set_option maxRecDepth 20000 in
theorem ms_X11_isVar : az_MS yX11_isVar cX11_isVar 1 (some .boolean) 1 := ⟨mt_X11_isVar, az_inT7 176 rfl rfl⟩
set_option maxRecDepth 20000 in
theorem mt_X11_isFam : az_MT yX11_isFam cX11_isFam 1 (some .boolean) 1 := ⟨az_inT7 180 rfl rfl, az_ini11, by decide, by decide, by decide +kernel, by decide, by decide +kernel⟩
set_option maxRecDepth 20000 in
theorem ms_X11_isFam : az_MS yX11_isFam cX11_isFam 1 (some .boolean) 1 := ⟨mt_X11_isFam, az_inT7 179 rfl rfl⟩
set_option maxRecDepth 20000 in
theorem mt_X11_takes : az_MT yX11_takes cX11_takes 2 (some .int) 1 := ⟨az_inT7 174 rfl rfl, az_ini11, by decide, by decide, by decide +kernel, by decide, by decide +kernel⟩
set_option maxRecDepth 20000 in
theorem mv_X11_takes : az_MV yX11_takes cX11_takes 2 (some .int) 1 11 := ⟨mt_X11_takes, az_inT7 173 rfl rfl, az_in 63 (by decide +kernel) rfl, by decide, _, _, rfl⟩
set_option maxRecDepth 20000 in
theorem mt_X11_areSame : az_MT yX11_areSame cX11_areSame 6 (some .boolean) 2 := ⟨az_inT8 19 rfl rfl, az_ini11, by decide, by decide, by decide +kernel, by decide, by decide +kernel⟩
set_option maxRecDepth 20000 in
theorem mv_X11_areSame : az_MV yX11_areSame cX11_areSame 6 (some .boolean) 2 11 := ⟨mt_X11_areSame, az_inT8 18 rfl rfl, az_in 82 (by decide +kernel) rfl, by decide, _, _, rfl⟩
set_option maxRecDepth 20000 in
theorem mt_X11_clears : az_MT yX11_clears cX11_clears 1 none 0 := ⟨az_inT7 204 rfl rfl, az_ini11, by decide, by decide, by decide +kernel, by decide, by decide +kernel⟩
set_option maxRecDepth 20000 in
theorem mv_X11_clears : az_MV yX11_clears cX11_clears 1 none 0 11 := ⟨mt_X11_clears, az_inT7 203 rfl rfl, az_in 69 (by decide +kernel) rfl, by decide, _, _, rfl⟩
set_option maxRecDepth 20000 in
theorem mt_X11_isRound : az_MT yX11_isRound cX11_isRound 4 (some .boolean) 1 := ⟨az_inT8 15 rfl rfl, az_ini11, by decide, by decide, by decide +kernel, by decide, by decide +kernel⟩
set_option maxRecDepth 20000 in
theorem mv_X11_isRound : az_MV yX11_isRound cX11_isRound 4 (some .boolean) 1 11 := ⟨mt_X11_isRound, az_inT8 14 rfl rfl, az_in 81 (by decide +kernel) rfl, by decide, _, _, rfl⟩
set_option maxRecDepth 20000 in
theorem mt_X11_hasCircle : az_MT yX11_hasCircle cX11_hasCircle 3 (some .boolean) 1 := ⟨az_inT8 11 rfl rfl, az_ini11, by decide, by decide, by decide +kernel, by decide, by decide +kernel⟩
set_option maxRecDepth 20000 in
theorem mv_X11_hasCircle : az_MV yX11_hasCircle cX11_hasCircle 3 (some .boolean) 1 11 := ⟨mt_X11_hasCircle, az_inT8 10 rfl rfl, az_in 80 (by decide +kernel) rfl, by decide, _, _, rfl⟩
set_option maxRecDepth 20000 in
theorem mt_X11_joins : az_MT yX11_joins cX11_joins 6 (some .boolean) 2 := ⟨az_inT8 3 rfl rfl, az_ini11, by decide, by decide, by decide +kernel, by decide, by decide +kernel⟩
set_option maxRecDepth 20000 in
theorem mv_X11_joins : az_MV yX11_joins cX11_joins 6 (some .boolean) 2 11 := ⟨mt_X11_joins, az_inT8 2 rfl rfl, az_in 78 (by decide +kernel) rfl, by decide, _, _, rfl⟩
set_option maxRecDepth 20000 in
theorem mt_X11_adds : az_MT yX11_adds cX11_adds 2 (some .int) 1 := ⟨az_inT7 231 rfl rfl, az_ini11, by decide, by decide, by decide +kernel, by decide, by decide +kernel⟩
set_option maxRecDepth 20000 in
theorem mv_X11_adds : az_MV yX11_adds cX11_adds 2 (some .int) 1 11 := ⟨mt_X11_adds, az_inT7 230 rfl rfl, az_in 75 (by decide +kernel) rfl, by decide, _, _, rfl⟩
set_option maxRecDepth 20000 in
theorem mt_X11_isSame : az_MT yX11_isSame cX11_isSame 6 (some .boolean) 5 := ⟨az_inT7 227 rfl rfl, az_ini11, by decide, by decide, by decide +kernel, by decide, by decide +kernel⟩
set_option maxRecDepth 20000 in
theorem ms_X11_isSame : az_MS yX11_isSame cX11_isSame 6 (some .boolean) 5 := ⟨mt_X11_isSame, az_inT7 226 rfl rfl⟩
set_option maxRecDepth 20000 in
theorem mt_X11_sizeAt : az_MT yX11_sizeAt cX11_sizeAt 5 (some .int) 2 := ⟨az_inT7 224 rfl rfl, az_ini11, by decide, by decide, by decide +kernel, by decide, by decide +kernel⟩
set_option maxRecDepth 20000 in
theorem mv_X11_sizeAt : az_MV yX11_sizeAt cX11_sizeAt 5 (some .int) 2 11 := ⟨mt_X11_sizeAt, az_inT7 223 rfl rfl, az_in 74 (by decide +kernel) rfl, by decide, _, _, rfl⟩
set_option maxRecDepth 20000 in
theorem mt_X11_flatNodeAt : az_MT yX11_flatNodeAt cX11_flatNodeAt 5 (some .int) 2 := ⟨az_inT7 220 rfl rfl, az_ini11, by decide, by decide, by decide +kernel, by decide, by decide +kernel⟩
set_option maxRecDepth 20000 in
theorem mv_X11_flatNodeAt : az_MV yX11_flatNodeAt cX11_flatNodeAt 5 (some .int) 2 11 := ⟨mt_X11_flatNodeAt, az_inT7 219 rfl rfl, az_in 73 (by decide +kernel) rfl, by decide, _, _, rfl⟩
set_option maxRecDepth 20000 in
theorem mt_X11_variableNode : az_MT yX11_variableNode cX11_variableNode 4 (some .int) 2 := ⟨az_inT7 235 rfl rfl, az_ini11, by decide, by decide, by decide +kernel, by decide, by decide +kernel⟩
set_option maxRecDepth 20000 in
theorem mv_X11_variableNode : az_MV yX11_variableNode cX11_variableNode 4 (some .int) 2 11 := ⟨mt_X11_variableNode, az_inT7 234 rfl rfl, az_in 76 (by decide +kernel) rfl, by decide, _, _, rfl⟩
set_option maxRecDepth 20000 in
theorem mt_X11_builds : az_MT yX11_builds cX11_builds 7 (some .int) 3 := ⟨az_inT7 216 rfl rfl, az_ini11, by decide, by decide, by decide +kernel, by decide, by decide +kernel⟩
set_option maxRecDepth 20000 in
theorem mv_X11_builds : az_MV yX11_builds cX11_builds 7 (some .int) 3 11 := ⟨mt_X11_builds, az_inT7 215 rfl rfl, az_in 72 (by decide +kernel) rfl, by decide, _, _, rfl⟩
set_option maxRecDepth 20000 in
theorem mt_X11_builtFrom : az_MT yX11_builtFrom cX11_builtFrom 5 (some .int) 4 := ⟨az_inT7 212 rfl rfl, az_ini11, by decide, by decide, by decide +kernel, by decide, by decide +kernel⟩
set_option maxRecDepth 20000 in
theorem mv_X11_builtFrom : az_MV yX11_builtFrom cX11_builtFrom 5 (some .int) 4 11 := ⟨mt_X11_builtFrom, az_inT7 211 rfl rfl, az_in 71 (by decide +kernel) rfl, by decide, _, _, rfl⟩
set_option maxRecDepth 20000 in
theorem mt_X11_eqAt : az_MT yX11_eqAt cX11_eqAt 2 (some .int) 1 := ⟨az_inT7 143 rfl rfl, az_ini11, by decide, by decide, by decide +kernel, by decide, by decide +kernel⟩
set_option maxRecDepth 20000 in
theorem mv_X11_eqAt : az_MV yX11_eqAt cX11_eqAt 2 (some .int) 1 11 := ⟨mt_X11_eqAt, az_inT7 142 rfl rfl, az_in 56 (by decide +kernel) rfl, by decide, _, _, rfl⟩
set_option maxRecDepth 20000 in
theorem mt_X11_leftNode : az_MT yX11_leftNode cX11_leftNode 3 (some .int) 2 := ⟨az_inT7 208 rfl rfl, az_ini11, by decide, by decide, by decide +kernel, by decide, by decide +kernel⟩
set_option maxRecDepth 20000 in
theorem mv_X11_leftNode : az_MV yX11_leftNode cX11_leftNode 3 (some .int) 2 11 := ⟨mt_X11_leftNode, az_inT7 207 rfl rfl, az_in 70 (by decide +kernel) rfl, by decide, _, _, rfl⟩
set_option maxRecDepth 20000 in
theorem mt_X11_rightNode : az_MT yX11_rightNode cX11_rightNode 4 (some .int) 3 := ⟨az_inT7 239 rfl rfl, az_ini11, by decide, by decide, by decide +kernel, by decide, by decide +kernel⟩
set_option maxRecDepth 20000 in
theorem mv_X11_rightNode : az_MV yX11_rightNode cX11_rightNode 4 (some .int) 3 11 := ⟨mt_X11_rightNode, az_inT7 238 rfl rfl, az_in 77 (by decide +kernel) rfl, by decide, _, _, rfl⟩
set_option maxRecDepth 20000 in
theorem mt_X11_areBad : az_MT yX11_areBad cX11_areBad 7 (some .boolean) 2 := ⟨az_inT8 123 rfl rfl, az_ini11, by decide, by decide, by decide +kernel, by decide, by decide +kernel⟩
set_option maxRecDepth 20000 in
theorem mv_X11_areBad : az_MV yX11_areBad cX11_areBad 7 (some .boolean) 2 11 := ⟨mt_X11_areBad, az_inT8 122 rfl rfl, az_in 101 (by decide +kernel) rfl, by decide, _, _, rfl⟩
set_option maxRecDepth 20000 in
theorem mt_X11_familyOf : az_MT yX11_familyOf cX11_familyOf 2 (some .int) 1 := ⟨az_inT8 43 rfl rfl, az_ini11, by decide, by decide, by decide +kernel, by decide, by decide +kernel⟩
set_option maxRecDepth 20000 in
theorem mv_X11_familyOf : az_MV yX11_familyOf cX11_familyOf 2 (some .int) 1 11 := ⟨mt_X11_familyOf, az_inT8 42 rfl rfl, az_in 85 (by decide +kernel) rfl, by decide, _, _, rfl⟩
set_option maxRecDepth 20000 in
theorem mt_X11_equationsOf : az_MT yX11_equationsOf cX11_equationsOf 4 (some .int) 1 := ⟨az_inT8 91 rfl rfl, az_ini11, by decide, by decide, by decide +kernel, by decide, by decide +kernel⟩
set_option maxRecDepth 20000 in
theorem mv_X11_equationsOf : az_MV yX11_equationsOf cX11_equationsOf 4 (some .int) 1 11 := ⟨mt_X11_equationsOf, az_inT8 90 rfl rfl, az_in 93 (by decide +kernel) rfl, by decide, _, _, rfl⟩
set_option maxRecDepth 20000 in
theorem mt_X11_standsOut : az_MT yX11_standsOut cX11_standsOut 5 (some .boolean) 2 := ⟨az_inT8 119 rfl rfl, az_ini11, by decide, by decide, by decide +kernel, by decide, by decide +kernel⟩
set_option maxRecDepth 20000 in
theorem mv_X11_standsOut : az_MV yX11_standsOut cX11_standsOut 5 (some .boolean) 2 11 := ⟨mt_X11_standsOut, az_inT8 118 rfl rfl, az_in 100 (by decide +kernel) rfl, by decide, _, _, rfl⟩
set_option maxRecDepth 20000 in
theorem mt_X11_badAlone : az_MT yX11_badAlone cX11_badAlone 5 (some .int) 1 := ⟨az_inT8 115 rfl rfl, az_ini11, by decide, by decide, by decide +kernel, by decide, by decide +kernel⟩
set_option maxRecDepth 20000 in
theorem mv_X11_badAlone : az_MV yX11_badAlone cX11_badAlone 5 (some .int) 1 11 := ⟨mt_X11_badAlone, az_inT8 114 rfl rfl, az_in 99 (by decide +kernel) rfl, by decide, _, _, rfl⟩
set_option maxRecDepth 20000 in
theorem mt_X11_isBad : az_MT yX11_isBad cX11_isBad 4 (some .boolean) 1 := ⟨az_inT8 111 rfl rfl, az_ini11, by decide, by decide, by decide +kernel, by decide, by decide +kernel⟩
set_option maxRecDepth 20000 in
theorem mv_X11_isBad : az_MV yX11_isBad cX11_isBad 4 (some .boolean) 1 11 := ⟨mt_X11_isBad, az_inT8 110 rfl rfl, az_in 98 (by decide +kernel) rfl, by decide, _, _, rfl⟩
set_option maxRecDepth 20000 in
theorem mt_X11_isFrom : az_MT yX11_isFrom cX11_isFrom 3 (some .boolean) 3 := ⟨az_inT7 72 rfl rfl, az_ini11, by decide, by decide, by decide +kernel, by decide, by decide +kernel⟩
set_option maxRecDepth 20000 in
theorem ms_X11_isFrom : az_MS yX11_isFrom cX11_isFrom 3 (some .boolean) 3 := ⟨mt_X11_isFrom, az_inT7 71 rfl rfl⟩
set_option maxRecDepth 20000 in
theorem mt_X11_isFamily : az_MT yX11_isFamily cX11_isFamily 2 (some .boolean) 1 := ⟨az_inT8 87 rfl rfl, az_ini11, by decide, by decide, by decide +kernel, by decide, by decide +kernel⟩
set_option maxRecDepth 20000 in
theorem mv_X11_isFamily : az_MV yX11_isFamily cX11_isFamily 2 (some .boolean) 1 11 := ⟨mt_X11_isFamily, az_inT8 86 rfl rfl, az_in 92 (by decide +kernel) rfl, by decide, _, _, rfl⟩
set_option maxRecDepth 20000 in
theorem mt_X11_refuse : az_MT yX11_refuse cX11_refuse 2 (some .int) 1 := ⟨az_inT7 76 rfl rfl, az_ini11, by decide, by decide, by decide +kernel, by decide, by decide +kernel⟩
set_option maxRecDepth 20000 in
theorem mv_X11_refuse : az_MV yX11_refuse cX11_refuse 2 (some .int) 1 11 := ⟨mt_X11_refuse, az_inT7 75 rfl rfl, az_in 43 (by decide +kernel) rfl, by decide, _, _, rfl⟩
set_option maxRecDepth 20000 in
theorem mt_X11_bad_ : az_MT yX11_bad_ cX11_bad_ 3 (some .int) 2 := ⟨az_inT8 131 rfl rfl, az_ini11, by decide, by decide, by decide +kernel, by decide, by decide +kernel⟩
set_option maxRecDepth 20000 in
theorem mv_X11_bad_ : az_MV yX11_bad_ cX11_bad_ 3 (some .int) 2 11 := ⟨mt_X11_bad_, az_inT8 129 rfl rfl, az_inT8 130 rfl rfl, by decide, _, _, rfl⟩
set_option maxRecDepth 20000 in
theorem mt_X11_isEquation : az_MT yX11_isEquation cX11_isEquation 2 (some .boolean) 1 := ⟨az_inT8 35 rfl rfl, az_ini11, by decide, by decide, by decide +kernel, by decide, by decide +kernel⟩
set_option maxRecDepth 20000 in
theorem mv_X11_isEquation : az_MV yX11_isEquation cX11_isEquation 2 (some .boolean) 1 11 := ⟨mt_X11_isEquation, az_inT8 34 rfl rfl, az_in 84 (by decide +kernel) rfl, by decide, _, _, rfl⟩
set_option maxRecDepth 20000 in
theorem mt_X11_compatible : az_MT yX11_compatible cX11_compatible 3 (some .int) 2 := ⟨az_inT8 39 rfl rfl, az_ini11, by decide, by decide, by decide +kernel, by decide, by decide +kernel⟩
set_option maxRecDepth 20000 in
theorem mv_X11_compatible : az_MV yX11_compatible cX11_compatible 3 (some .int) 2 11 := ⟨mt_X11_compatible, az_inT8 37 rfl rfl, az_inT8 38 rfl rfl, by decide, _, _, rfl⟩
set_option maxRecDepth 20000 in
theorem mt_X11_letterOf : az_MT yX11_letterOf cX11_letterOf 3 (some .int) 1 := ⟨az_inT8 55 rfl rfl, az_ini11, by decide, by decide, by decide +kernel, by decide, by decide +kernel⟩
set_option maxRecDepth 20000 in
theorem mv_X11_letterOf : az_MV yX11_letterOf cX11_letterOf 3 (some .int) 1 11 := ⟨mt_X11_letterOf, az_inT8 54 rfl rfl, az_in 87 (by decide +kernel) rfl, by decide, _, _, rfl⟩
set_option maxRecDepth 20000 in
theorem mt_X11_lettersIn : az_MT yX11_lettersIn cX11_lettersIn 4 none 1 := ⟨az_inT8 51 rfl rfl, az_ini11, by decide, by decide, by decide +kernel, by decide, by decide +kernel⟩
set_option maxRecDepth 20000 in
theorem mv_X11_lettersIn : az_MV yX11_lettersIn cX11_lettersIn 4 none 1 11 := ⟨mt_X11_lettersIn, az_inT8 50 rfl rfl, az_in 86 (by decide +kernel) rfl, by decide, _, _, rfl⟩
set_option maxRecDepth 20000 in
theorem mt_X11_meeting : az_MT yX11_meeting cX11_meeting 3 (some .int) 2 := ⟨az_inT7 200 rfl rfl, az_ini11, by decide, by decide, by decide +kernel, by decide, by decide +kernel⟩
set_option maxRecDepth 20000 in
theorem mv_X11_meeting : az_MV yX11_meeting cX11_meeting 3 (some .int) 2 11 := ⟨mt_X11_meeting, az_inT7 199 rfl rfl, az_in 68 (by decide +kernel) rfl, by decide, _, _, rfl⟩
set_option maxRecDepth 20000 in
theorem mt_X11_nameOf : az_MT yX11_nameOf cX11_nameOf 2 (some .long) 1 := ⟨az_inT8 67 rfl rfl, az_ini11, by decide, by decide, by decide +kernel, by decide, by decide +kernel⟩
set_option maxRecDepth 20000 in
theorem mv_X11_nameOf : az_MV yX11_nameOf cX11_nameOf 2 (some .long) 1 11 := ⟨mt_X11_nameOf, az_inT8 66 rfl rfl, az_in 90 (by decide +kernel) rfl, by decide, _, _, rfl⟩
set_option maxRecDepth 20000 in
theorem mt_X11_tellsByte : az_MT yX11_tellsByte cX11_tellsByte 2 none 1 := ⟨az_inT8 63 rfl rfl, az_ini11, by decide, by decide, by decide +kernel, by decide, by decide +kernel⟩
set_option maxRecDepth 20000 in
theorem mv_X11_tellsByte : az_MV yX11_tellsByte cX11_tellsByte 2 none 1 11 := ⟨mt_X11_tellsByte, az_inT8 62 rfl rfl, az_in 89 (by decide +kernel) rfl, by decide, _, _, rfl⟩
set_option maxRecDepth 20000 in
theorem mt_X11_tells : az_MT yX11_tells cX11_tells 5 none 1 := ⟨az_inT8 71 rfl rfl, az_ini11, by decide, by decide, by decide +kernel, by decide, by decide +kernel⟩
set_option maxRecDepth 20000 in
theorem mv_X11_tells : az_MV yX11_tells cX11_tells 5 none 1 11 := ⟨mt_X11_tells, az_inT8 70 rfl rfl, az_in 91 (by decide +kernel) rfl, by decide, _, _, rfl⟩
set_option maxRecDepth 20000 in
theorem mt_X11_tellsNode : az_MT yX11_tellsNode cX11_tellsNode 4 none 1 := ⟨az_inT8 59 rfl rfl, az_ini11, by decide, by decide, by decide +kernel, by decide, by decide +kernel⟩
set_option maxRecDepth 20000 in
theorem mv_X11_tellsNode : az_MV yX11_tellsNode cX11_tellsNode 4 none 1 11 := ⟨mt_X11_tellsNode, az_inT8 58 rfl rfl, az_in 88 (by decide +kernel) rfl, by decide, _, _, rfl⟩
set_option maxRecDepth 20000 in
theorem mt_X11_ends_ : az_MT yX11_ends_ cX11_ends_ 4 (some .int) 3 := ⟨az_inT8 47 rfl rfl, az_ini11, by decide, by decide, by decide +kernel, by decide, by decide +kernel⟩
set_option maxRecDepth 20000 in
theorem mv_X11_ends_ : az_MV yX11_ends_ cX11_ends_ 4 (some .int) 3 11 := ⟨mt_X11_ends_, az_inT8 45 rfl rfl, az_inT8 46 rfl rfl, by decide, _, _, rfl⟩
set_option maxRecDepth 20000 in
theorem mt_X11_often : az_MT yX11_often cX11_often 6 (some .int) 4 := ⟨az_inT8 146 rfl rfl, az_ini11, by decide, by decide, by decide +kernel, by decide, by decide +kernel⟩
set_option maxRecDepth 20000 in
theorem ms_X11_often : az_MS yX11_often cX11_often 6 (some .int) 4 := ⟨mt_X11_often, az_inT8 145 rfl rfl⟩
set_option maxRecDepth 20000 in
theorem mt_X11_unboundBy : az_MT yX11_unboundBy cX11_unboundBy 5 (some .int) 2 := ⟨az_inT8 143 rfl rfl, az_ini11, by decide, by decide, by decide +kernel, by decide, by decide +kernel⟩
set_option maxRecDepth 20000 in
theorem mv_X11_unboundBy : az_MV yX11_unboundBy cX11_unboundBy 5 (some .int) 2 11 := ⟨mt_X11_unboundBy, az_inT8 142 rfl rfl, az_in 103 (by decide +kernel) rfl, by decide, _, _, rfl⟩
set_option maxRecDepth 20000 in
theorem mt_X11_unbound : az_MT yX11_unbound cX11_unbound 5 (some .int) 1 := ⟨az_inT8 139 rfl rfl, az_ini11, by decide, by decide, by decide +kernel, by decide, by decide +kernel⟩
set_option maxRecDepth 20000 in
theorem mv_X11_unbound : az_MV yX11_unbound cX11_unbound 5 (some .int) 1 11 := ⟨mt_X11_unbound, az_inT8 138 rfl rfl, az_in 102 (by decide +kernel) rfl, by decide, _, _, rfl⟩
set_option maxRecDepth 20000 in
theorem mt_X11_equation : az_MT yX11_equation cX11_equation 5 (some .int) 2 := ⟨az_inT8 135 rfl rfl, az_ini11, by decide, by decide, by decide +kernel, by decide, by decide +kernel⟩
set_option maxRecDepth 20000 in
theorem mv_X11_equation : az_MV yX11_equation cX11_equation 5 (some .int) 2 11 := ⟨mt_X11_equation, az_inT8 133 rfl rfl, az_inT8 134 rfl rfl, by decide, _, _, rfl⟩
set_option maxRecDepth 20000 in
theorem mt_X11_canBack : az_MT yX11_canBack cX11_canBack 2 (some .boolean) 1 := ⟨az_inT8 107 rfl rfl, az_ini11, by decide, by decide, by decide +kernel, by decide, by decide +kernel⟩
set_option maxRecDepth 20000 in
theorem mv_X11_canBack : az_MV yX11_canBack cX11_canBack 2 (some .boolean) 1 11 := ⟨mt_X11_canBack, az_inT8 106 rfl rfl, az_in 97 (by decide +kernel) rfl, by decide, _, _, rfl⟩
set_option maxRecDepth 20000 in
theorem mt_X11_isParted : az_MT yX11_isParted cX11_isParted 4 (some .boolean) 1 := ⟨az_inT8 103 rfl rfl, az_ini11, by decide, by decide, by decide +kernel, by decide, by decide +kernel⟩
set_option maxRecDepth 20000 in
theorem mv_X11_isParted : az_MV yX11_isParted cX11_isParted 4 (some .boolean) 1 11 := ⟨mt_X11_isParted, az_inT8 102 rfl rfl, az_in 96 (by decide +kernel) rfl, by decide, _, _, rfl⟩
set_option maxRecDepth 20000 in
theorem mt_X11_onRight : az_MT yX11_onRight cX11_onRight 5 (some .int) 1 := ⟨az_inT8 95 rfl rfl, az_ini11, by decide, by decide, by decide +kernel, by decide, by decide +kernel⟩
set_option maxRecDepth 20000 in
theorem mv_X11_onRight : az_MV yX11_onRight cX11_onRight 5 (some .int) 1 11 := ⟨mt_X11_onRight, az_inT8 94 rfl rfl, az_in 94 (by decide +kernel) rfl, by decide, _, _, rfl⟩
set_option maxRecDepth 20000 in
theorem mt_X11_onRightAgain : az_MT yX11_onRightAgain cX11_onRightAgain 5 (some .int) 1 := ⟨az_inT8 99 rfl rfl, az_ini11, by decide, by decide, by decide +kernel, by decide, by decide +kernel⟩
set_option maxRecDepth 20000 in
theorem mv_X11_onRightAgain : az_MV yX11_onRightAgain cX11_onRightAgain 5 (some .int) 1 11 := ⟨mt_X11_onRightAgain, az_inT8 98 rfl rfl, az_in 95 (by decide +kernel) rfl, by decide, _, _, rfl⟩
set_option maxRecDepth 20000 in
theorem mt_X11_family : az_MT yX11_family cX11_family 3 (some .int) 2 := ⟨az_inT8 83 rfl rfl, az_ini11, by decide, by decide, by decide +kernel, by decide, by decide +kernel⟩
set_option maxRecDepth 20000 in
theorem mv_X11_family : az_MV yX11_family cX11_family 3 (some .int) 2 11 := ⟨mt_X11_family, az_inT8 81 rfl rfl, az_inT8 82 rfl rfl, by decide, _, _, rfl⟩
set_option maxRecDepth 20000 in
theorem mt_X11_fault : az_MT yX11_fault cX11_fault 2 (some .int) 1 := ⟨az_inT8 27 rfl rfl, az_ini11, by decide, by decide, by decide +kernel, by decide, by decide +kernel⟩
set_option maxRecDepth 20000 in
theorem mv_X11_fault : az_MV yX11_fault cX11_fault 2 (some .int) 1 11 := ⟨mt_X11_fault, az_inT8 25 rfl rfl, az_inT8 26 rfl rfl, by decide, _, _, rfl⟩
set_option maxRecDepth 20000 in
theorem mt_X11_come : az_MT yX11_come cX11_come 3 none 1 := ⟨az_inT7 65 rfl rfl, az_ini11, by decide, by decide, by decide +kernel, by decide, by decide +kernel⟩
set_option maxRecDepth 20000 in
theorem mv_X11_come : az_MV yX11_come cX11_come 3 none 1 11 := ⟨mt_X11_come, az_inT7 64 rfl rfl, az_in 42 (by decide +kernel) rfl, by decide, _, _, rfl⟩
set_option maxRecDepth 20000 in
theorem mt_X11_feed : az_MT yX11_feed cX11_feed 6 (some .int) 5 := ⟨az_inT7 61 rfl rfl, az_ini11, by decide, by decide, by decide +kernel, by decide, by decide +kernel⟩
set_option maxRecDepth 20000 in
theorem mv_X11_feed : az_MV yX11_feed cX11_feed 6 (some .int) 5 11 := ⟨mt_X11_feed, az_inT7 59 rfl rfl, az_inT7 60 rfl rfl, by decide, _, _, rfl⟩
set_option maxRecDepth 20000 in
theorem mt_X11_init : az_MT yX11_init cX11_init 1 none 0 := ⟨az_inT5 180 rfl rfl, az_ini11, by decide, by decide, by decide +kernel, by decide, by decide +kernel⟩
set_option maxRecDepth 20000 in
theorem mi_X11_init : az_MI yX11_init cX11_init 1 0 := ⟨mt_X11_init, az_inT5 179 rfl rfl, rfl⟩
set_option maxRecDepth 20000 in
theorem mt_X11_byteAt : az_MT yX11_byteAt cX11_byteAt 2 (some .int) 1 := ⟨az_inT7 88 rfl rfl, az_ini11, by decide, by decide, by decide +kernel, by decide, by decide +kernel⟩
set_option maxRecDepth 20000 in
theorem mv_X11_byteAt : az_MV yX11_byteAt cX11_byteAt 2 (some .int) 1 11 := ⟨mt_X11_byteAt, az_inT7 87 rfl rfl, az_in 46 (by decide +kernel) rfl, by decide, _, _, rfl⟩
set_option maxRecDepth 20000 in
theorem mt_X11_isDigit : az_MT yX11_isDigit cX11_isDigit 1 (some .boolean) 1 := ⟨az_inT7 97 rfl rfl, az_ini11, by decide, by decide, by decide +kernel, by decide, by decide +kernel⟩
set_option maxRecDepth 20000 in
theorem ms_X11_isDigit : az_MS yX11_isDigit cX11_isDigit 1 (some .boolean) 1 := ⟨mt_X11_isDigit, az_inT7 96 rfl rfl⟩
set_option maxRecDepth 20000 in
theorem mt_X11_isGreat : az_MT yX11_isGreat cX11_isGreat 1 (some .boolean) 1 := ⟨az_inT7 94 rfl rfl, az_ini11, by decide, by decide, by decide +kernel, by decide, by decide +kernel⟩
set_option maxRecDepth 20000 in
theorem ms_X11_isGreat : az_MS yX11_isGreat cX11_isGreat 1 (some .boolean) 1 := ⟨mt_X11_isGreat, az_inT7 93 rfl rfl⟩
set_option maxRecDepth 20000 in
theorem mt_X11_isSmall : az_MT yX11_isSmall cX11_isSmall 1 (some .boolean) 1 := ⟨az_inT7 91 rfl rfl, az_ini11, by decide, by decide, by decide +kernel, by decide, by decide +kernel⟩
set_option maxRecDepth 20000 in
theorem ms_X11_isSmall : az_MS yX11_isSmall cX11_isSmall 1 (some .boolean) 1 := ⟨mt_X11_isSmall, az_inT7 90 rfl rfl⟩
set_option maxRecDepth 20000 in
theorem mt_X11_go : az_MT yX11_go cX11_go 3 none 0 := ⟨az_inT7 84 rfl rfl, az_ini11, by decide, by decide, by decide +kernel, by decide, by decide +kernel⟩
set_option maxRecDepth 20000 in
theorem mv_X11_go : az_MV yX11_go cX11_go 3 none 0 11 := ⟨mt_X11_go, az_inT7 83 rfl rfl, az_in 45 (by decide +kernel) rfl, by decide, _, _, rfl⟩
set_option maxRecDepth 20000 in
theorem mt_X11_begins : az_MT yX11_begins cX11_begins 2 none 1 := ⟨az_inT7 80 rfl rfl, az_ini11, by decide, by decide, by decide +kernel, by decide, by decide +kernel⟩
set_option maxRecDepth 20000 in
theorem mv_X11_begins : az_MV yX11_begins cX11_begins 2 none 1 11 := ⟨mt_X11_begins, az_inT7 79 rfl rfl, az_in 44 (by decide +kernel) rfl, by decide, _, _, rfl⟩
set_option maxRecDepth 20000 in
theorem mt_X11_ends : az_MT yX11_ends cX11_ends 2 (some .boolean) 1 := ⟨az_inT7 192 rfl rfl, az_ini11, by decide, by decide, by decide +kernel, by decide, by decide +kernel⟩
set_option maxRecDepth 20000 in
theorem mv_X11_ends : az_MV yX11_ends cX11_ends 2 (some .boolean) 1 11 := ⟨mt_X11_ends, az_inT7 191 rfl rfl, az_in 66 (by decide +kernel) rfl, by decide, _, _, rfl⟩
set_option maxRecDepth 20000 in
theorem mt_X11_laysCompatible : az_MT yX11_laysCompatible cX11_laysCompatible 4 none 0 := ⟨az_inT7 196 rfl rfl, az_ini11, by decide, by decide, by decide +kernel, by decide, by decide +kernel⟩
set_option maxRecDepth 20000 in
theorem mv_X11_laysCompatible : az_MV yX11_laysCompatible cX11_laysCompatible 4 none 0 11 := ⟨mt_X11_laysCompatible, az_inT7 195 rfl rfl, az_in 67 (by decide +kernel) rfl, by decide, _, _, rfl⟩
set_option maxRecDepth 20000 in
theorem mt_X11_bad : az_MT yX11_bad cX11_bad 2 (some .boolean) 1 := ⟨az_inT7 119 rfl rfl, az_ini11, by decide, by decide, by decide +kernel, by decide, by decide +kernel⟩
set_option maxRecDepth 20000 in
theorem mv_X11_bad : az_MV yX11_bad cX11_bad 2 (some .boolean) 1 11 := ⟨mt_X11_bad, az_inT7 118 rfl rfl, az_in 50 (by decide +kernel) rfl, by decide, _, _, rfl⟩
set_option maxRecDepth 20000 in
theorem mt_X11_spelt : az_MT yX11_spelt cX11_spelt 8 (some .long) 6 := ⟨az_inT7 111 rfl rfl, az_ini11, by decide, by decide, by decide +kernel, by decide, by decide +kernel⟩
set_option maxRecDepth 20000 in
theorem ms_X11_spelt : az_MS yX11_spelt cX11_spelt 8 (some .long) 6 := ⟨mt_X11_spelt, az_inT7 110 rfl rfl⟩
set_option maxRecDepth 20000 in
theorem mt_X11_wordOf : az_MT yX11_wordOf cX11_wordOf 1 (some .long) 1 := ⟨az_inT7 108 rfl rfl, az_ini11, by decide, by decide, by decide +kernel, by decide, by decide +kernel⟩
set_option maxRecDepth 20000 in
theorem ms_X11_wordOf : az_MS yX11_wordOf cX11_wordOf 1 (some .long) 1 := ⟨mt_X11_wordOf, az_inT7 107 rfl rfl⟩
set_option maxRecDepth 20000 in
theorem mt_X11_isWord : az_MT yX11_isWord cX11_isWord 2 (some .boolean) 1 := ⟨az_inT7 105 rfl rfl, az_ini11, by decide, by decide, by decide +kernel, by decide, by decide +kernel⟩
set_option maxRecDepth 20000 in
theorem mv_X11_isWord : az_MV yX11_isWord cX11_isWord 2 (some .boolean) 1 11 := ⟨mt_X11_isWord, az_inT7 104 rfl rfl, az_in 48 (by decide +kernel) rfl, by decide, _, _, rfl⟩
set_option maxRecDepth 20000 in
theorem mt_X11_isSign : az_MT yX11_isSign cX11_isSign 2 (some .boolean) 1 := ⟨az_inT7 135 rfl rfl, az_ini11, by decide, by decide, by decide +kernel, by decide, by decide +kernel⟩
set_option maxRecDepth 20000 in
theorem mv_X11_isSign : az_MV yX11_isSign cX11_isSign 2 (some .boolean) 1 11 := ⟨mt_X11_isSign, az_inT7 134 rfl rfl, az_in 54 (by decide +kernel) rfl, by decide, _, _, rfl⟩
set_option maxRecDepth 20000 in
theorem mt_X11_eats : az_MT yX11_eats cX11_eats 2 (some .boolean) 1 := ⟨az_inT7 131 rfl rfl, az_ini11, by decide, by decide, by decide +kernel, by decide, by decide +kernel⟩
set_option maxRecDepth 20000 in
theorem mv_X11_eats : az_MV yX11_eats cX11_eats 2 (some .boolean) 1 11 := ⟨mt_X11_eats, az_inT7 130 rfl rfl, az_in 53 (by decide +kernel) rfl, by decide, _, _, rfl⟩
set_option maxRecDepth 20000 in
theorem mt_X11_conOf : az_MT yX11_conOf cX11_conOf 4 (some .int) 1 := ⟨az_inT7 127 rfl rfl, az_ini11, by decide, by decide, by decide +kernel, by decide, by decide +kernel⟩
set_option maxRecDepth 20000 in
theorem mv_X11_conOf : az_MV yX11_conOf cX11_conOf 4 (some .int) 1 11 := ⟨mt_X11_conOf, az_inT7 126 rfl rfl, az_in 52 (by decide +kernel) rfl, by decide, _, _, rfl⟩
set_option maxRecDepth 20000 in
theorem mt_X11_famOf : az_MT yX11_famOf cX11_famOf 4 (some .int) 1 := ⟨az_inT7 123 rfl rfl, az_ini11, by decide, by decide, by decide +kernel, by decide, by decide +kernel⟩
set_option maxRecDepth 20000 in
theorem mv_X11_famOf : az_MV yX11_famOf cX11_famOf 4 (some .int) 1 11 := ⟨mt_X11_famOf, az_inT7 122 rfl rfl, az_in 51 (by decide +kernel) rfl, by decide, _, _, rfl⟩
set_option maxRecDepth 20000 in
theorem mt_X11_isVariable : az_MT yX11_isVariable cX11_isVariable 2 (some .boolean) 0 := ⟨az_inT7 155 rfl rfl, az_ini11, by decide, by decide, by decide +kernel, by decide, by decide +kernel⟩
set_option maxRecDepth 20000 in
theorem mv_X11_isVariable : az_MV yX11_isVariable cX11_isVariable 2 (some .boolean) 0 11 := ⟨mt_X11_isVariable, az_inT7 154 rfl rfl, az_in 59 (by decide +kernel) rfl, by decide, _, _, rfl⟩
set_option maxRecDepth 20000 in
theorem mt_X11_puts : az_MT yX11_puts cX11_puts 2 (some .boolean) 1 := ⟨az_inT7 166 rfl rfl, az_ini11, by decide, by decide, by decide +kernel, by decide, by decide +kernel⟩
set_option maxRecDepth 20000 in
theorem mv_X11_puts : az_MV yX11_puts cX11_puts 2 (some .boolean) 1 11 := ⟨mt_X11_puts, az_inT7 165 rfl rfl, az_in 61 (by decide +kernel) rfl, by decide, _, _, rfl⟩
set_option maxRecDepth 20000 in
theorem mt_X11_mayEnd : az_MT yX11_mayEnd cX11_mayEnd 3 (some .boolean) 2 := ⟨az_inT7 188 rfl rfl, az_ini11, by decide, by decide, by decide +kernel, by decide, by decide +kernel⟩
set_option maxRecDepth 20000 in
theorem mv_X11_mayEnd : az_MV yX11_mayEnd cX11_mayEnd 3 (some .boolean) 2 11 := ⟨mt_X11_mayEnd, az_inT7 187 rfl rfl, az_in 65 (by decide +kernel) rfl, by decide, _, _, rfl⟩
set_option maxRecDepth 20000 in
theorem mt_X11_readArguments : az_MT yX11_readArguments cX11_readArguments 5 (some .boolean) 3 := ⟨az_inT7 184 rfl rfl, az_ini11, by decide, by decide, by decide +kernel, by decide, by decide +kernel⟩
set_option maxRecDepth 20000 in
theorem mv_X11_readArguments : az_MV yX11_readArguments cX11_readArguments 5 (some .boolean) 3 11 := ⟨mt_X11_readArguments, az_inT7 183 rfl rfl, az_in 64 (by decide +kernel) rfl, by decide, _, _, rfl⟩
set_option maxRecDepth 20000 in
theorem mt_X11_findIn : az_MT yX11_findIn cX11_findIn 5 (some .int) 3 := ⟨az_inT7 162 rfl rfl, az_ini11, by decide, by decide, by decide +kernel, by decide, by decide +kernel⟩
set_option maxRecDepth 20000 in
theorem ms_X11_findIn : az_MS yX11_findIn cX11_findIn 5 (some .int) 3 := ⟨mt_X11_findIn, az_inT7 161 rfl rfl⟩
set_option maxRecDepth 20000 in
theorem mt_X11_readUnknown : az_MT yX11_readUnknown cX11_readUnknown 2 (some .boolean) 0 := ⟨az_inT7 170 rfl rfl, az_ini11, by decide, by decide, by decide +kernel, by decide, by decide +kernel⟩
set_option maxRecDepth 20000 in
theorem mv_X11_readUnknown : az_MV yX11_readUnknown cX11_readUnknown 2 (some .boolean) 0 11 := ⟨mt_X11_readUnknown, az_inT7 169 rfl rfl, az_in 62 (by decide +kernel) rfl, by decide, _, _, rfl⟩
set_option maxRecDepth 20000 in
theorem mt_X11_readVariable : az_MT yX11_readVariable cX11_readVariable 2 (some .boolean) 0 := ⟨az_inT7 159 rfl rfl, az_ini11, by decide, by decide, by decide +kernel, by decide, by decide +kernel⟩
set_option maxRecDepth 20000 in
theorem mv_X11_readVariable : az_MV yX11_readVariable cX11_readVariable 2 (some .boolean) 0 11 := ⟨mt_X11_readVariable, az_inT7 158 rfl rfl, az_in 60 (by decide +kernel) rfl, by decide, _, _, rfl⟩
set_option maxRecDepth 20000 in
theorem mt_X11_readTerm : az_MT yX11_readTerm cX11_readTerm 7 (some .boolean) 3 := ⟨az_inT7 151 rfl rfl, az_ini11, by decide, by decide, by decide +kernel, by decide, by decide +kernel⟩
set_option maxRecDepth 20000 in
theorem mv_X11_readTerm : az_MV yX11_readTerm cX11_readTerm 7 (some .boolean) 3 11 := ⟨mt_X11_readTerm, az_inT7 150 rfl rfl, az_in 58 (by decide +kernel) rfl, by decide, _, _, rfl⟩
set_option maxRecDepth 20000 in
theorem mt_X11_readWhole : az_MT yX11_readWhole cX11_readWhole 8 (some .int) 6 := ⟨az_inT7 147 rfl rfl, az_ini11, by decide, by decide, by decide +kernel, by decide, by decide +kernel⟩
set_option maxRecDepth 20000 in
theorem mv_X11_readWhole : az_MV yX11_readWhole cX11_readWhole 8 (some .int) 6 11 := ⟨mt_X11_readWhole, az_inT7 146 rfl rfl, az_in 57 (by decide +kernel) rfl, by decide, _, _, rfl⟩
set_option maxRecDepth 20000 in
theorem mt_X11_readEquation : az_MT yX11_readEquation cX11_readEquation 2 (some .boolean) 0 := ⟨az_inT7 139 rfl rfl, az_ini11, by decide, by decide, by decide +kernel, by decide, by decide +kernel⟩
set_option maxRecDepth 20000 in
theorem mv_X11_readEquation : az_MV yX11_readEquation cX11_readEquation 2 (some .boolean) 0 11 := ⟨mt_X11_readEquation, az_inT7 138 rfl rfl, az_in 55 (by decide +kernel) rfl, by decide, _, _, rfl⟩
set_option maxRecDepth 20000 in
theorem mt_X11_readTold : az_MT yX11_readTold cX11_readTold 6 (some .boolean) 2 := ⟨az_inT7 115 rfl rfl, az_ini11, by decide, by decide, by decide +kernel, by decide, by decide +kernel⟩
set_option maxRecDepth 20000 in
theorem mv_X11_readTold : az_MV yX11_readTold cX11_readTold 6 (some .boolean) 2 11 := ⟨mt_X11_readTold, az_inT7 114 rfl rfl, az_in 49 (by decide +kernel) rfl, by decide, _, _, rfl⟩
set_option maxRecDepth 20000 in
theorem mt_X11_readLine : az_MT yX11_readLine cX11_readLine 1 (some .boolean) 0 := ⟨az_inT7 101 rfl rfl, az_ini11, by decide, by decide, by decide +kernel, by decide, by decide +kernel⟩
set_option maxRecDepth 20000 in
theorem mv_X11_readLine : az_MV yX11_readLine cX11_readLine 1 (some .boolean) 0 11 := ⟨mt_X11_readLine, az_inT7 100 rfl rfl, az_in 47 (by decide +kernel) rfl, by decide, _, _, rfl⟩
set_option maxRecDepth 20000 in
theorem mt_X11_load : az_MT yX11_load cX11_load 3 (some .int) 1 := ⟨az_inT7 69 rfl rfl, az_ini11, by decide, by decide, by decide +kernel, by decide, by decide +kernel⟩
set_option maxRecDepth 20000 in
theorem mv_X11_load : az_MV yX11_load cX11_load 3 (some .int) 1 11 := ⟨mt_X11_load, az_inT7 67 rfl rfl, az_inT7 68 rfl rfl, by decide, _, _, rfl⟩
set_option maxRecDepth 20000 in
theorem mt_X11_many : az_MT yX11_many cX11_many 2 (some .int) 1 := ⟨az_inT8 79 rfl rfl, az_ini11, by decide, by decide, by decide +kernel, by decide, by decide +kernel⟩
set_option maxRecDepth 20000 in
theorem mv_X11_many : az_MV yX11_many cX11_many 2 (some .int) 1 11 := ⟨mt_X11_many, az_inT8 77 rfl rfl, az_inT8 78 rfl rfl, by decide, _, _, rfl⟩
set_option maxRecDepth 20000 in
theorem mt_X11_meets : az_MT yX11_meets cX11_meets 3 (some .int) 2 := ⟨az_inT8 31 rfl rfl, az_ini11, by decide, by decide, by decide +kernel, by decide, by decide +kernel⟩
set_option maxRecDepth 20000 in
theorem mv_X11_meets : az_MV yX11_meets cX11_meets 3 (some .int) 2 11 := ⟨mt_X11_meets, az_inT8 29 rfl rfl, az_inT8 30 rfl rfl, by decide, _, _, rfl⟩
set_option maxRecDepth 20000 in
theorem mt_X11_deepOf : az_MT yX11_deepOf cX11_deepOf 4 (some .int) 1 := ⟨az_inT8 159 rfl rfl, az_ini11, by decide, by decide, by decide +kernel, by decide, by decide +kernel⟩
set_option maxRecDepth 20000 in
theorem mv_X11_deepOf : az_MV yX11_deepOf cX11_deepOf 4 (some .int) 1 11 := ⟨mt_X11_deepOf, az_inT8 158 rfl rfl, az_in 104 (by decide +kernel) rfl, by decide, _, _, rfl⟩
set_option maxRecDepth 20000 in
theorem mt_X11_fits : az_MT yX11_fits cX11_fits 10 (some .boolean) 3 := ⟨az_inT8 172 rfl rfl, az_ini11, by decide, by decide, by decide +kernel, by decide, by decide +kernel⟩
set_option maxRecDepth 20000 in
theorem mv_X11_fits : az_MV yX11_fits cX11_fits 10 (some .boolean) 3 11 := ⟨mt_X11_fits, az_inT8 171 rfl rfl, az_in 107 (by decide +kernel) rfl, by decide, _, _, rfl⟩
set_option maxRecDepth 20000 in
theorem mt_X11_builtFlat : az_MT yX11_builtFlat cX11_builtFlat 6 (some .int) 3 := ⟨az_inT8 184 rfl rfl, az_ini11, by decide, by decide, by decide +kernel, by decide, by decide +kernel⟩
set_option maxRecDepth 20000 in
theorem mv_X11_builtFlat : az_MV yX11_builtFlat cX11_builtFlat 6 (some .int) 3 11 := ⟨mt_X11_builtFlat, az_inT8 183 rfl rfl, az_in 110 (by decide +kernel) rfl, by decide, _, _, rfl⟩
set_option maxRecDepth 20000 in
theorem mt_X11_isApart : az_MT yX11_isApart cX11_isApart 6 (some .boolean) 3 := ⟨az_inT8 180 rfl rfl, az_ini11, by decide, by decide, by decide +kernel, by decide, by decide +kernel⟩
set_option maxRecDepth 20000 in
theorem mv_X11_isApart : az_MV yX11_isApart cX11_isApart 6 (some .boolean) 3 11 := ⟨mt_X11_isApart, az_inT8 179 rfl rfl, az_in 109 (by decide +kernel) rfl, by decide, _, _, rfl⟩
set_option maxRecDepth 20000 in
theorem mt_X11_mayStill : az_MT yX11_mayStill cX11_mayStill 5 (some .int) 3 := ⟨az_inT8 176 rfl rfl, az_ini11, by decide, by decide, by decide +kernel, by decide, by decide +kernel⟩
set_option maxRecDepth 20000 in
theorem mv_X11_mayStill : az_MV yX11_mayStill cX11_mayStill 5 (some .int) 3 11 := ⟨mt_X11_mayStill, az_inT8 175 rfl rfl, az_in 108 (by decide +kernel) rfl, by decide, _, _, rfl⟩
set_option maxRecDepth 20000 in
theorem mt_X11_whyNot : az_MT yX11_whyNot cX11_whyNot 4 (some .int) 3 := ⟨az_inT8 168 rfl rfl, az_ini11, by decide, by decide, by decide +kernel, by decide, by decide +kernel⟩
set_option maxRecDepth 20000 in
theorem mv_X11_whyNot : az_MV yX11_whyNot cX11_whyNot 4 (some .int) 3 11 := ⟨mt_X11_whyNot, az_inT8 167 rfl rfl, az_in 106 (by decide +kernel) rfl, by decide, _, _, rfl⟩
set_option maxRecDepth 20000 in
theorem mt_X11_firing : az_MT yX11_firing cX11_firing 4 (some .int) 2 := ⟨az_inT8 164 rfl rfl, az_ini11, by decide, by decide, by decide +kernel, by decide, by decide +kernel⟩
set_option maxRecDepth 20000 in
theorem mv_X11_firing : az_MV yX11_firing cX11_firing 4 (some .int) 2 11 := ⟨mt_X11_firing, az_inT8 163 rfl rfl, az_in 105 (by decide +kernel) rfl, by decide, _, _, rfl⟩
set_option maxRecDepth 20000 in
theorem mt_X11_isCon : az_MT yX11_isCon cX11_isCon 1 (some .boolean) 1 := ⟨az_inT8 195 rfl rfl, az_ini11, by decide, by decide, by decide +kernel, by decide, by decide +kernel⟩
set_option maxRecDepth 20000 in
theorem ms_X11_isCon : az_MS yX11_isCon cX11_isCon 1 (some .boolean) 1 := ⟨mt_X11_isCon, az_inT8 194 rfl rfl⟩
set_option maxRecDepth 20000 in
theorem mt_X11_isNode : az_MT yX11_isNode cX11_isNode 2 (some .boolean) 1 := ⟨az_inT8 192 rfl rfl, az_ini11, by decide, by decide, by decide +kernel, by decide, by decide +kernel⟩
set_option maxRecDepth 20000 in
theorem mv_X11_isNode : az_MV yX11_isNode cX11_isNode 2 (some .boolean) 1 11 := ⟨mt_X11_isNode, az_inT8 191 rfl rfl, az_in 111 (by decide +kernel) rfl, by decide, _, _, rfl⟩
set_option maxRecDepth 20000 in
theorem mt_X11_node : az_MT yX11_node cX11_node 4 (some .int) 2 := ⟨az_inT8 188 rfl rfl, az_ini11, by decide, by decide, by decide +kernel, by decide, by decide +kernel⟩
set_option maxRecDepth 20000 in
theorem mv_X11_node : az_MV yX11_node cX11_node 4 (some .int) 2 11 := ⟨mt_X11_node, az_inT8 186 rfl rfl, az_inT8 187 rfl rfl, by decide, _, _, rfl⟩
set_option maxRecDepth 20000 in
theorem mt_X11_now : az_MT yX11_now cX11_now 4 (some .int) 1 := ⟨az_inT8 155 rfl rfl, az_ini11, by decide, by decide, by decide +kernel, by decide, by decide +kernel⟩
set_option maxRecDepth 20000 in
theorem mv_X11_now : az_MV yX11_now cX11_now 4 (some .int) 1 11 := ⟨mt_X11_now, az_inT8 153 rfl rfl, az_inT8 154 rfl rfl, by decide, _, _, rfl⟩
set_option maxRecDepth 20000 in
theorem mt_X11_out : az_MT yX11_out cX11_out 2 (some .int) 1 := ⟨az_inT8 75 rfl rfl, az_ini11, by decide, by decide, by decide +kernel, by decide, by decide +kernel⟩
set_option maxRecDepth 20000 in
theorem mv_X11_out : az_MV yX11_out cX11_out 2 (some .int) 1 11 := ⟨mt_X11_out, az_inT8 73 rfl rfl, az_inT8 74 rfl rfl, by decide, _, _, rfl⟩
set_option maxRecDepth 20000 in
theorem mt_X11_parts : az_MT yX11_parts cX11_parts 3 (some .int) 2 := ⟨az_inT8 127 rfl rfl, az_ini11, by decide, by decide, by decide +kernel, by decide, by decide +kernel⟩
set_option maxRecDepth 20000 in
theorem mv_X11_parts : az_MV yX11_parts cX11_parts 3 (some .int) 2 11 := ⟨mt_X11_parts, az_inT8 125 rfl rfl, az_inT8 126 rfl rfl, by decide, _, _, rfl⟩
set_option maxRecDepth 20000 in
theorem mt_X11_period : az_MT yX11_period cX11_period 1 (some .int) 0 := ⟨az_inT9 23 rfl rfl, az_ini11, by decide, by decide, by decide +kernel, by decide, by decide +kernel⟩
set_option maxRecDepth 20000 in
theorem mv_X11_period : az_MV yX11_period cX11_period 1 (some .int) 0 11 := ⟨mt_X11_period, az_inT9 21 rfl rfl, az_inT9 22 rfl rfl, by decide, _, _, rfl⟩
set_option maxRecDepth 20000 in
theorem mt_X11_tellsRow : az_MT yX11_tellsRow cX11_tellsRow 7 none 3 := ⟨az_inT9 31 rfl rfl, az_ini11, by decide, by decide, by decide +kernel, by decide, by decide +kernel⟩
set_option maxRecDepth 20000 in
theorem mv_X11_tellsRow : az_MV yX11_tellsRow cX11_tellsRow 7 none 3 11 := ⟨mt_X11_tellsRow, az_inT9 30 rfl rfl, az_in 123 (by decide +kernel) rfl, by decide, _, _, rfl⟩
set_option maxRecDepth 20000 in
theorem mt_X11_print : az_MT yX11_print cX11_print 1 (some .int) 0 := ⟨az_inT9 27 rfl rfl, az_ini11, by decide, by decide, by decide +kernel, by decide, by decide +kernel⟩
set_option maxRecDepth 20000 in
theorem mv_X11_print : az_MV yX11_print cX11_print 1 (some .int) 0 11 := ⟨mt_X11_print, az_inT9 25 rfl rfl, az_inT9 26 rfl rfl, by decide, _, _, rfl⟩
set_option maxRecDepth 20000 in
theorem mt_X11_keepsTerm : az_MT yX11_keepsTerm cX11_keepsTerm 2 none 0 := ⟨az_inT9 3 rfl rfl, az_ini11, by decide, by decide, by decide +kernel, by decide, by decide +kernel⟩
set_option maxRecDepth 20000 in
theorem mv_X11_keepsTerm : az_MV yX11_keepsTerm cX11_keepsTerm 2 none 0 11 := ⟨mt_X11_keepsTerm, az_inT9 2 rfl rfl, az_in 120 (by decide +kernel) rfl, by decide, _, _, rfl⟩
set_option maxRecDepth 20000 in
theorem mt_X11_laysTerm : az_MT yX11_laysTerm cX11_laysTerm 2 none 0 := ⟨az_inT8 211 rfl rfl, az_ini11, by decide, by decide, by decide +kernel, by decide, by decide +kernel⟩
set_option maxRecDepth 20000 in
theorem mv_X11_laysTerm : az_MV yX11_laysTerm cX11_laysTerm 2 none 0 11 := ⟨mt_X11_laysTerm, az_inT8 210 rfl rfl, az_in 112 (by decide +kernel) rfl, by decide, _, _, rfl⟩
set_option maxRecDepth 20000 in
theorem mt_X11_doneAt : az_MT yX11_doneAt cX11_doneAt 3 (some .int) 1 := ⟨az_inT8 223 rfl rfl, az_ini11, by decide, by decide, by decide +kernel, by decide, by decide +kernel⟩
set_option maxRecDepth 20000 in
theorem mv_X11_doneAt : az_MV yX11_doneAt cX11_doneAt 3 (some .int) 1 11 := ⟨mt_X11_doneAt, az_inT8 222 rfl rfl, az_in 115 (by decide +kernel) rfl, by decide, _, _, rfl⟩
set_option maxRecDepth 20000 in
theorem mt_X11_firstWithin : az_MT yX11_firstWithin cX11_firstWithin 5 (some .int) 1 := ⟨az_inT8 219 rfl rfl, az_ini11, by decide, by decide, by decide +kernel, by decide, by decide +kernel⟩
set_option maxRecDepth 20000 in
theorem mv_X11_firstWithin : az_MV yX11_firstWithin cX11_firstWithin 5 (some .int) 1 11 := ⟨mt_X11_firstWithin, az_inT8 218 rfl rfl, az_in 114 (by decide +kernel) rfl, by decide, _, _, rfl⟩
set_option maxRecDepth 20000 in
theorem mt_X11_firstWithout : az_MT yX11_firstWithout cX11_firstWithout 3 (some .int) 0 := ⟨az_inT8 227 rfl rfl, az_ini11, by decide, by decide, by decide +kernel, by decide, by decide +kernel⟩
set_option maxRecDepth 20000 in
theorem mv_X11_firstWithout : az_MV yX11_firstWithout cX11_firstWithout 3 (some .int) 0 11 := ⟨mt_X11_firstWithout, az_inT8 226 rfl rfl, az_in 116 (by decide +kernel) rfl, by decide, _, _, rfl⟩
set_option maxRecDepth 20000 in
theorem mt_X11_keepsPast : az_MT yX11_keepsPast cX11_keepsPast 3 none 1 := ⟨az_inT9 15 rfl rfl, az_ini11, by decide, by decide, by decide +kernel, by decide, by decide +kernel⟩
set_option maxRecDepth 20000 in
theorem mv_X11_keepsPast : az_MV yX11_keepsPast cX11_keepsPast 3 none 1 11 := ⟨mt_X11_keepsPast, az_inT9 14 rfl rfl, az_in 122 (by decide +kernel) rfl, by decide, _, _, rfl⟩
set_option maxRecDepth 20000 in
theorem mt_X11_becomesNext : az_MT yX11_becomesNext cX11_becomesNext 2 none 0 := ⟨az_inT8 239 rfl rfl, az_ini11, by decide, by decide, by decide +kernel, by decide, by decide +kernel⟩
set_option maxRecDepth 20000 in
theorem mv_X11_becomesNext : az_MV yX11_becomesNext cX11_becomesNext 2 none 0 11 := ⟨mt_X11_becomesNext, az_inT8 238 rfl rfl, az_in 119 (by decide +kernel) rfl, by decide, _, _, rfl⟩
set_option maxRecDepth 20000 in
theorem mt_X11_follows : az_MT yX11_follows cX11_follows 5 none 3 := ⟨az_inT8 235 rfl rfl, az_ini11, by decide, by decide, by decide +kernel, by decide, by decide +kernel⟩
set_option maxRecDepth 20000 in
theorem mv_X11_follows : az_MV yX11_follows cX11_follows 5 none 3 11 := ⟨mt_X11_follows, az_inT8 234 rfl rfl, az_in 118 (by decide +kernel) rfl, by decide, _, _, rfl⟩
set_option maxRecDepth 20000 in
theorem mt_X11_makes : az_MT yX11_makes cX11_makes 7 (some .boolean) 1 := ⟨az_inT8 231 rfl rfl, az_ini11, by decide, by decide, by decide +kernel, by decide, by decide +kernel⟩
set_option maxRecDepth 20000 in
theorem mv_X11_makes : az_MV yX11_makes cX11_makes 7 (some .boolean) 1 11 := ⟨mt_X11_makes, az_inT8 230 rfl rfl, az_in 117 (by decide +kernel) rfl, by decide, _, _, rfl⟩
set_option maxRecDepth 20000 in
theorem mt_X11_steps : az_MT yX11_steps cX11_steps 3 (some .int) 1 := ⟨az_inT8 215 rfl rfl, az_ini11, by decide, by decide, by decide +kernel, by decide, by decide +kernel⟩
set_option maxRecDepth 20000 in
theorem mv_X11_steps : az_MV yX11_steps cX11_steps 3 (some .int) 1 11 := ⟨mt_X11_steps, az_inT8 214 rfl rfl, az_in 113 (by decide +kernel) rfl, by decide, _, _, rfl⟩
set_option maxRecDepth 20000 in
theorem mt_X11_reduces : az_MT yX11_reduces cX11_reduces 4 (some .int) 1 := ⟨az_inT9 11 rfl rfl, az_ini11, by decide, by decide, by decide +kernel, by decide, by decide +kernel⟩
set_option maxRecDepth 20000 in
theorem mv_X11_reduces : az_MV yX11_reduces cX11_reduces 4 (some .int) 1 11 := ⟨mt_X11_reduces, az_inT9 10 rfl rfl, az_in 121 (by decide +kernel) rfl, by decide, _, _, rfl⟩
set_option maxRecDepth 20000 in
theorem mt_X11_reduce : az_MT yX11_reduce cX11_reduce 3 (some .int) 1 := ⟨az_inT9 7 rfl rfl, az_ini11, by decide, by decide, by decide +kernel, by decide, by decide +kernel⟩
set_option maxRecDepth 20000 in
theorem mv_X11_reduce : az_MV yX11_reduce cX11_reduce 3 (some .int) 1 11 := ⟨mt_X11_reduce, az_inT9 5 rfl rfl, az_inT9 6 rfl rfl, by decide, _, _, rfl⟩
set_option maxRecDepth 20000 in
theorem mt_X11_status : az_MT yX11_status cX11_status 1 (some .int) 0 := ⟨az_inT7 57 rfl rfl, az_ini11, by decide, by decide, by decide +kernel, by decide, by decide +kernel⟩
set_option maxRecDepth 20000 in
theorem mv_X11_status : az_MV yX11_status cX11_status 1 (some .int) 0 11 := ⟨mt_X11_status, az_inT7 55 rfl rfl, az_inT7 56 rfl rfl, by decide, _, _, rfl⟩
set_option maxRecDepth 20000 in
theorem mt_X11_step : az_MT yX11_step cX11_step 3 (some .int) 1 := ⟨az_inT8 207 rfl rfl, az_ini11, by decide, by decide, by decide +kernel, by decide, by decide +kernel⟩
set_option maxRecDepth 20000 in
theorem mv_X11_step : az_MV yX11_step cX11_step 3 (some .int) 1 11 := ⟨mt_X11_step, az_inT8 205 rfl rfl, az_inT8 206 rfl rfl, by decide, _, _, rfl⟩
set_option maxRecDepth 20000 in
theorem mt_X11_still : az_MT yX11_still cX11_still 3 (some .int) 2 := ⟨az_inT8 203 rfl rfl, az_ini11, by decide, by decide, by decide +kernel, by decide, by decide +kernel⟩
set_option maxRecDepth 20000 in
theorem mv_X11_still : az_MV yX11_still cX11_still 3 (some .int) 2 11 := ⟨mt_X11_still, az_inT8 201 rfl rfl, az_inT8 202 rfl rfl, by decide, _, _, rfl⟩
set_option maxRecDepth 20000 in
theorem mt_X11_term : az_MT yX11_term cX11_term 5 (some .int) 1 := ⟨az_inT8 151 rfl rfl, az_ini11, by decide, by decide, by decide +kernel, by decide, by decide +kernel⟩
set_option maxRecDepth 20000 in
theorem mv_X11_term : az_MV yX11_term cX11_term 5 (some .int) 1 11 := ⟨mt_X11_term, az_inT8 149 rfl rfl, az_inT8 150 rfl rfl, by decide, _, _, rfl⟩
set_option maxRecDepth 20000 in
theorem mt_X11_comes : az_MT yX11_comes cX11_comes 6 (some .boolean) 3 := ⟨az_inT9 67 rfl rfl, az_ini11, by decide, by decide, by decide +kernel, by decide, by decide +kernel⟩
set_option maxRecDepth 20000 in
theorem mv_X11_comes : az_MV yX11_comes cX11_comes 6 (some .boolean) 3 11 := ⟨mt_X11_comes, az_inT9 66 rfl rfl, az_in 131 (by decide +kernel) rfl, by decide, _, _, rfl⟩
set_option maxRecDepth 20000 in
theorem mt_X11_expands : az_MT yX11_expands cX11_expands 4 (some .boolean) 3 := ⟨az_inT9 63 rfl rfl, az_ini11, by decide, by decide, by decide +kernel, by decide, by decide +kernel⟩
set_option maxRecDepth 20000 in
theorem mv_X11_expands : az_MV yX11_expands cX11_expands 4 (some .boolean) 3 11 := ⟨mt_X11_expands, az_inT9 62 rfl rfl, az_in 130 (by decide +kernel) rfl, by decide, _, _, rfl⟩
set_option maxRecDepth 20000 in
theorem mt_X11_unknown : az_MT yX11_unknown cX11_unknown 2 (some .int) 1 := ⟨az_inT9 110 rfl rfl, az_ini11, by decide, by decide, by decide +kernel, by decide, by decide +kernel⟩
set_option maxRecDepth 20000 in
theorem mv_X11_unknown : az_MV yX11_unknown cX11_unknown 2 (some .int) 1 11 := ⟨mt_X11_unknown, az_inT9 108 rfl rfl, az_inT9 109 rfl rfl, by decide, _, _, rfl⟩
set_option maxRecDepth 20000 in
theorem mt_X11_readWanted : az_MT yX11_readWanted cX11_readWanted 6 (some .boolean) 0 := ⟨az_inT9 39 rfl rfl, az_ini11, by decide, by decide, by decide +kernel, by decide, by decide +kernel⟩
set_option maxRecDepth 20000 in
theorem mv_X11_readWanted : az_MV yX11_readWanted cX11_readWanted 6 (some .boolean) 0 11 := ⟨mt_X11_readWanted, az_inT9 38 rfl rfl, az_in 124 (by decide +kernel) rfl, by decide, _, _, rfl⟩
set_option maxRecDepth 20000 in
theorem mt_X11_isUnknown : az_MT yX11_isUnknown cX11_isUnknown 2 (some .boolean) 1 := ⟨az_inT9 71 rfl rfl, az_ini11, by decide, by decide, by decide +kernel, by decide, by decide +kernel⟩
set_option maxRecDepth 20000 in
theorem mv_X11_isUnknown : az_MV yX11_isUnknown cX11_isUnknown 2 (some .boolean) 1 11 := ⟨mt_X11_isUnknown, az_inT9 70 rfl rfl, az_in 132 (by decide +kernel) rfl, by decide, _, _, rfl⟩
set_option maxRecDepth 20000 in
theorem mt_X11_reducesSide : az_MT yX11_reducesSide cX11_reducesSide 3 (some .boolean) 2 := ⟨az_inT9 59 rfl rfl, az_ini11, by decide, by decide, by decide +kernel, by decide, by decide +kernel⟩
set_option maxRecDepth 20000 in
theorem mv_X11_reducesSide : az_MV yX11_reducesSide cX11_reducesSide 3 (some .boolean) 2 11 := ⟨mt_X11_reducesSide, az_inT9 58 rfl rfl, az_in 129 (by decide +kernel) rfl, by decide, _, _, rfl⟩
set_option maxRecDepth 20000 in
theorem mt_X11_length : az_MT yX11_length cX11_length 3 (some .int) 0 := ⟨az_inT9 90 rfl rfl, az_ini11, by decide, by decide, by decide +kernel, by decide, by decide +kernel⟩
set_option maxRecDepth 20000 in
theorem mv_X11_length : az_MV yX11_length cX11_length 3 (some .int) 0 11 := ⟨mt_X11_length, az_inT9 89 rfl rfl, az_in 136 (by decide +kernel) rfl, by decide, _, _, rfl⟩
set_option maxRecDepth 20000 in
theorem mt_X11_putsSide : az_MT yX11_putsSide cX11_putsSide 7 none 5 := ⟨az_inT9 94 rfl rfl, az_ini11, by decide, by decide, by decide +kernel, by decide, by decide +kernel⟩
set_option maxRecDepth 20000 in
theorem mv_X11_putsSide : az_MV yX11_putsSide cX11_putsSide 7 none 5 11 := ⟨mt_X11_putsSide, az_inT9 93 rfl rfl, az_in 137 (by decide +kernel) rfl, by decide, _, _, rfl⟩
set_option maxRecDepth 20000 in
theorem mt_X11_splits : az_MT yX11_splits cX11_splits 7 (some .int) 1 := ⟨az_inT9 86 rfl rfl, az_ini11, by decide, by decide, by decide +kernel, by decide, by decide +kernel⟩
set_option maxRecDepth 20000 in
theorem mv_X11_splits : az_MV yX11_splits cX11_splits 7 (some .int) 1 11 := ⟨mt_X11_splits, az_inT9 85 rfl rfl, az_in 135 (by decide +kernel) rfl, by decide, _, _, rfl⟩
set_option maxRecDepth 20000 in
theorem mt_X11_hasCode : az_MT yX11_hasCode cX11_hasCode 4 (some .boolean) 3 := ⟨az_inT9 78 rfl rfl, az_ini11, by decide, by decide, by decide +kernel, by decide, by decide +kernel⟩
set_option maxRecDepth 20000 in
theorem ms_X11_hasCode : az_MS yX11_hasCode cX11_hasCode 4 (some .boolean) 3 := ⟨mt_X11_hasCode, az_inT9 77 rfl rfl⟩
set_option maxRecDepth 20000 in
theorem mt_X11_hasOutside : az_MT yX11_hasOutside cX11_hasOutside 5 (some .boolean) 3 := ⟨az_inT9 82 rfl rfl, az_ini11, by decide, by decide, by decide +kernel, by decide, by decide +kernel⟩
set_option maxRecDepth 20000 in
theorem mv_X11_hasOutside : az_MV yX11_hasOutside cX11_hasOutside 5 (some .boolean) 3 11 := ⟨mt_X11_hasOutside, az_inT9 81 rfl rfl, az_in 134 (by decide +kernel) rfl, by decide, _, _, rfl⟩
set_option maxRecDepth 20000 in
theorem mt_X11_unknownBy : az_MT yX11_unknownBy cX11_unknownBy 5 (some .int) 3 := ⟨az_inT9 75 rfl rfl, az_ini11, by decide, by decide, by decide +kernel, by decide, by decide +kernel⟩
set_option maxRecDepth 20000 in
theorem mv_X11_unknownBy : az_MV yX11_unknownBy cX11_unknownBy 5 (some .int) 3 11 := ⟨mt_X11_unknownBy, az_inT9 74 rfl rfl, az_in 133 (by decide +kernel) rfl, by decide, _, _, rfl⟩
set_option maxRecDepth 20000 in
theorem mt_X11_asks : az_MT yX11_asks cX11_asks 3 (some .int) 1 := ⟨az_inT9 55 rfl rfl, az_ini11, by decide, by decide, by decide +kernel, by decide, by decide +kernel⟩
set_option maxRecDepth 20000 in
theorem mv_X11_asks : az_MV yX11_asks cX11_asks 3 (some .int) 1 11 := ⟨mt_X11_asks, az_inT9 54 rfl rfl, az_in 128 (by decide +kernel) rfl, by decide, _, _, rfl⟩
set_option maxRecDepth 20000 in
theorem mt_X11_closesUp : az_MT yX11_closesUp cX11_closesUp 5 none 0 := ⟨az_inT9 98 rfl rfl, az_ini11, by decide, by decide, by decide +kernel, by decide, by decide +kernel⟩
set_option maxRecDepth 20000 in
theorem mv_X11_closesUp : az_MV yX11_closesUp cX11_closesUp 5 none 0 11 := ⟨mt_X11_closesUp, az_inT9 97 rfl rfl, az_in 138 (by decide +kernel) rfl, by decide, _, _, rfl⟩
set_option maxRecDepth 20000 in
theorem mt_X11_round : az_MT yX11_round cX11_round 5 (some .boolean) 0 := ⟨az_inT9 51 rfl rfl, az_ini11, by decide, by decide, by decide +kernel, by decide, by decide +kernel⟩
set_option maxRecDepth 20000 in
theorem mv_X11_round : az_MV yX11_round cX11_round 5 (some .boolean) 0 11 := ⟨mt_X11_round, az_inT9 50 rfl rfl, az_in 127 (by decide +kernel) rfl, by decide, _, _, rfl⟩
set_option maxRecDepth 20000 in
theorem mt_X11_solves : az_MT yX11_solves cX11_solves 2 none 0 := ⟨az_inT9 47 rfl rfl, az_ini11, by decide, by decide, by decide +kernel, by decide, by decide +kernel⟩
set_option maxRecDepth 20000 in
theorem mv_X11_solves : az_MV yX11_solves cX11_solves 2 none 0 11 := ⟨mt_X11_solves, az_inT9 46 rfl rfl, az_in 126 (by decide +kernel) rfl, by decide, _, _, rfl⟩
set_option maxRecDepth 20000 in
theorem mt_X11_takesWanted : az_MT yX11_takesWanted cX11_takesWanted 4 none 0 := ⟨az_inT9 43 rfl rfl, az_ini11, by decide, by decide, by decide +kernel, by decide, by decide +kernel⟩
set_option maxRecDepth 20000 in
theorem mv_X11_takesWanted : az_MV yX11_takesWanted cX11_takesWanted 4 none 0 11 := ⟨mt_X11_takesWanted, az_inT9 42 rfl rfl, az_in 125 (by decide +kernel) rfl, by decide, _, _, rfl⟩
set_option maxRecDepth 20000 in
theorem mt_X11_want : az_MT yX11_want cX11_want 3 (some .int) 1 := ⟨az_inT9 35 rfl rfl, az_ini11, by decide, by decide, by decide +kernel, by decide, by decide +kernel⟩
set_option maxRecDepth 20000 in
theorem mv_X11_want : az_MV yX11_want cX11_want 3 (some .int) 1 11 := ⟨mt_X11_want, az_inT9 33 rfl rfl, az_inT9 34 rfl rfl, by decide, _, _, rfl⟩
set_option maxRecDepth 20000 in
theorem mt_X11_known : az_MT yX11_known cX11_known 3 (some .int) 0 := ⟨az_inT9 106 rfl rfl, az_ini11, by decide, by decide, by decide +kernel, by decide, by decide +kernel⟩
set_option maxRecDepth 20000 in
theorem mv_X11_known : az_MV yX11_known cX11_known 3 (some .int) 0 11 := ⟨mt_X11_known, az_inT9 105 rfl rfl, az_in 139 (by decide +kernel) rfl, by decide, _, _, rfl⟩
set_option maxRecDepth 20000 in
theorem mt_X11_wanted : az_MT yX11_wanted cX11_wanted 2 (some .int) 1 := ⟨az_inT9 102 rfl rfl, az_ini11, by decide, by decide, by decide +kernel, by decide, by decide +kernel⟩
set_option maxRecDepth 20000 in
theorem mv_X11_wanted : az_MV yX11_wanted cX11_wanted 2 (some .int) 1 11 := ⟨mt_X11_wanted, az_inT9 100 rfl rfl, az_inT9 101 rfl rfl, by decide, _, _, rfl⟩
set_option maxRecDepth 20000 in
theorem mt_X11_why : az_MT yX11_why cX11_why 3 (some .int) 2 := ⟨az_inT8 199 rfl rfl, az_ini11, by decide, by decide, by decide +kernel, by decide, by decide +kernel⟩
set_option maxRecDepth 20000 in
theorem mv_X11_why : az_MV yX11_why cX11_why 3 (some .int) 2 11 := ⟨mt_X11_why, az_inT8 197 rfl rfl, az_inT8 198 rfl rfl, by decide, _, _, rfl⟩
set_option maxRecDepth 20000 in
theorem mt_X11_would : az_MT yX11_would cX11_would 6 (some .int) 2 := ⟨az_inT9 19 rfl rfl, az_ini11, by decide, by decide, by decide +kernel, by decide, by decide +kernel⟩
set_option maxRecDepth 20000 in
theorem mv_X11_would : az_MV yX11_would cX11_would 6 (some .int) 2 11 := ⟨mt_X11_would, az_inT9 17 rfl rfl, az_inT9 18 rfl rfl, by decide, _, _, rfl⟩
