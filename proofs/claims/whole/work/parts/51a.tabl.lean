/-! THE LAW'S WORDS ARE AMONG THE TABLES' -/
set_option maxRecDepth 20000 in
theorem lwi_1 : ∀ w ∈ wsL_law0_r1, w ∈ lw_tbl := fun w h => (goodIn_s (big := lw_tbl) wsL_law0_r1 [(147, 2), (123, 1), (1247, 2), (131, 1), (1756, 1), (149, 8), (124, 1), (341, 1), (224, 2), (127, 1), (342, 1), (243, 2), (128, 1)] (by rfl) (by decide +kernel) w h).1
set_option maxRecDepth 20000 in
theorem lwi_2 : ∀ w ∈ wsL_law0_r2, w ∈ lw_tbl := fun w h => (goodIn_s (big := lw_tbl) wsL_law0_r2 [(343, 1), (268, 2), (129, 1), (344, 1), (339, 1), (162, 1), (125, 1), (345, 2), (157, 4), (197, 1), (199, 1), (195, 1), (203, 1), (161, 1), (205, 1), (207, 2), (163, 2)] (by rfl) (by decide +kernel) w h).1
set_option maxRecDepth 20000 in
theorem lwi_3 : ∀ w ∈ wsL_law0_r3, w ∈ lw_tbl := fun w h => (goodIn_s (big := lw_tbl) wsL_law0_r3 [(165, 2), (170, 8), (167, 2), (126, 1), (169, 1), (226, 5), (233, 1), (232, 1), (246, 3)] (by rfl) (by decide +kernel) w h).1
set_option maxRecDepth 20000 in
theorem lwi_4 : ∀ w ∈ wsL_law0_r4, w ∈ lw_tbl := fun w h => (goodIn_s (big := lw_tbl) wsL_law0_r4 [(249, 2), (253, 1), (271, 3), (299, 8), (274, 2), (130, 1), (307, 1), (277, 6)] (by rfl) (by decide +kernel) w h).1
set_option maxRecDepth 20000 in
theorem lwi_5 : ∀ w ∈ wsL_law0_r5, w ∈ lw_tbl := fun w h => (goodIn_s (big := lw_tbl) wsL_law0_r5 [(283, 1), (340, 1), (1249, 8), (1258, 1), (1261, 1), (1263, 9), (1275, 1), (1015, 2)] (by rfl) (by decide +kernel) w h).1
set_option maxRecDepth 20000 in
theorem lwi_6 : ∀ w ∈ wsL_law0_r6, w ∈ lw_tbl := fun w h => (goodIn_s (big := lw_tbl) wsL_law0_r6 [(122, 1), (1017, 9), (537, 3), (817, 4), (135, 1), (888, 1), (136, 1), (904, 1), (137, 1), (472, 2)] (by rfl) (by decide +kernel) w h).1
set_option maxRecDepth 20000 in
theorem lwi_7 : ∀ w ∈ wsL_law0_r7, w ∈ lw_tbl := fun w h => (goodIn_s (big := lw_tbl) wsL_law0_r7 [(474, 2), (235, 1), (234, 1), (507, 1), (488, 1), (138, 1), (489, 1), (476, 1), (478, 1), (7, 1), (479, 5), (201, 1), (485, 3), (490, 1), (492, 1), (491, 1), (139, 1)] (by rfl) (by decide +kernel) w h).1
set_option maxRecDepth 20000 in
theorem lwi_8 : ∀ w ∈ wsL_law0_r8, w ∈ lw_tbl := fun w h => (goodIn_s (big := lw_tbl) wsL_law0_r8 [(493, 4), (498, 1), (500, 1), (8, 1), (501, 5), (397, 2), (684, 1), (686, 1), (27, 1), (687, 5), (308, 1), (310, 1)] (by rfl) (by decide +kernel) w h).1
set_option maxRecDepth 20000 in
theorem lwi_9 : ∀ w ∈ wsL_law0_r9, w ∈ lw_tbl := fun w h => (goodIn_s (big := lw_tbl) wsL_law0_r9 [(311, 1), (692, 1), (694, 1), (28, 1), (695, 3), (571, 3), (698, 4), (470, 2), (703, 1), (705, 1), (29, 1), (706, 1), (309, 1), (707, 3)] (by rfl) (by decide +kernel) w h).1
set_option maxRecDepth 20000 in
theorem lwi_10 : ∀ w ∈ wsL_law0_r10, w ∈ lw_tbl := fun w h => (goodIn_s (big := lw_tbl) wsL_law0_r10 [(710, 1), (712, 4), (575, 2), (717, 1), (719, 1), (30, 1), (720, 5), (646, 3), (725, 1), (727, 1), (31, 1), (728, 3)] (by rfl) (by decide +kernel) w h).1
set_option maxRecDepth 20000 in
theorem lwi_11 : ∀ w ∈ wsL_law0_r11, w ∈ lw_tbl := fun w h => (goodIn_s (big := lw_tbl) wsL_law0_r11 [(731, 7), (739, 1), (32, 1), (740, 2), (743, 1), (33, 1), (744, 2), (747, 1), (34, 1), (748, 7)] (by rfl) (by decide +kernel) w h).1
set_option maxRecDepth 20000 in
theorem lwi_12 : ∀ w ∈ wsL_law0_r12, w ∈ lw_tbl := fun w h => (goodIn_s (big := lw_tbl) wsL_law0_r12 [(755, 2), (284, 2), (757, 12), (770, 8)] (by rfl) (by decide +kernel) w h).1
set_option maxRecDepth 20000 in
theorem lwi_13 : ∀ w ∈ wsL_law0_r13, w ∈ lw_tbl := fun w h => (goodIn_s (big := lw_tbl) wsL_law0_r13 [(779, 1), (781, 1), (35, 1), (782, 6), (789, 1), (36, 1), (790, 2), (793, 1), (37, 1), (794, 9)] (by rfl) (by decide +kernel) w h).1
set_option maxRecDepth 20000 in
theorem lwi_14 : ∀ w ∈ wsL_law0_r14, w ∈ lw_tbl := fun w h => (goodIn_s (big := lw_tbl) wsL_law0_r14 [(1330, 11), (1342, 1), (51, 1), (1343, 1), (1260, 1), (1344, 1), (1346, 1), (52, 1), (1347, 5), (1353, 1)] (by rfl) (by decide +kernel) w h).1
set_option maxRecDepth 20000 in
theorem lwi_15 : ∀ w ∈ wsL_law0_r15, w ∈ lw_tbl := fun w h => (goodIn_s (big := lw_tbl) wsL_law0_r15 [(53, 1), (1354, 1), (1257, 1), (1355, 1), (1357, 1), (54, 1), (1358, 1), (1326, 4), (1026, 8), (530, 1), (532, 1), (10, 1), (533, 2)] (by rfl) (by decide +kernel) w h).1
set_option maxRecDepth 20000 in
theorem lwi_16 : ∀ w ∈ wsL_law0_r16, w ∈ lw_tbl := fun w h => (goodIn_s (big := lw_tbl) wsL_law0_r16 [(535, 2), (589, 8), (1359, 5), (1365, 1), (55, 1), (1366, 1), (1272, 1), (1367, 1), (1369, 1), (56, 1), (1370, 1), (1034, 1)] (by rfl) (by decide +kernel) w h).1
set_option maxRecDepth 20000 in
theorem lwi_17 : ∀ w ∈ wsL_law0_r17, w ∈ lw_tbl := fun w h => (goodIn_s (big := lw_tbl) wsL_law0_r17 [(1035, 7), (544, 1), (546, 1), (12, 1), (547, 1), (953, 4), (1042, 1), (1371, 5), (1377, 1), (57, 1), (1378, 1)] (by rfl) (by decide +kernel) w h).1
set_option maxRecDepth 20000 in
theorem lwi_18 : ∀ w ∈ wsL_law0_r18, w ∈ lw_tbl := fun w h => (goodIn_s (big := lw_tbl) wsL_law0_r18 [(1043, 7), (548, 1), (550, 1), (13, 1), (551, 5), (663, 4), (602, 4), (628, 1)] (by rfl) (by decide +kernel) w h).1
set_option maxRecDepth 20000 in
theorem lwi_19 : ∀ w ∈ wsL_law0_r19, w ∈ lw_tbl := fun w h => (goodIn_s (big := lw_tbl) wsL_law0_r19 [(606, 1), (608, 1), (19, 1), (609, 1), (611, 1), (613, 1), (20, 1), (614, 1), (616, 5), (622, 1), (21, 1), (623, 5), (629, 4)] (by rfl) (by decide +kernel) w h).1
set_option maxRecDepth 20000 in
theorem lwi_20 : ∀ w ∈ wsL_law0_r20, w ∈ lw_tbl := fun w h => (goodIn_s (big := lw_tbl) wsL_law0_r20 [(641, 1), (643, 1), (24, 1), (644, 1), (633, 1), (635, 1), (22, 1), (636, 2), (639, 1), (23, 1), (640, 1), (655, 1), (657, 1), (25, 1), (658, 1), (645, 1), (649, 6), (659, 1)] (by rfl) (by decide +kernel) w h).1
set_option maxRecDepth 20000 in
theorem lwi_21 : ∀ w ∈ wsL_law0_r21, w ∈ lw_tbl := fun w h => (goodIn_s (big := lw_tbl) wsL_law0_r21 [(661, 1), (26, 1), (662, 1), (570, 1), (932, 1), (1379, 5), (1385, 1), (58, 1), (1386, 2), (1389, 1), (59, 1), (1390, 2), (1393, 1), (60, 1), (1394, 2), (1397, 1), (61, 1)] (by rfl) (by decide +kernel) w h).1
set_option maxRecDepth 20000 in
theorem lwi_22 : ∀ w ∈ wsL_law0_r22, w ∈ lw_tbl := fun w h => (goodIn_s (big := lw_tbl) wsL_law0_r22 [(1398, 2), (1401, 1), (62, 1), (1402, 2), (1405, 1), (63, 1), (1406, 2), (1409, 1), (64, 1), (1410, 2), (1413, 1), (65, 1), (1414, 2), (1417, 1), (66, 1), (1418, 2), (1421, 1), (67, 1)] (by rfl) (by decide +kernel) w h).1
set_option maxRecDepth 20000 in
theorem lwi_23 : ∀ w ∈ wsL_law0_r23, w ∈ lw_tbl := fun w h => (goodIn_s (big := lw_tbl) wsL_law0_r23 [(1422, 2), (1425, 1), (68, 1), (1426, 2), (1429, 1), (69, 1), (1430, 2), (1433, 1), (70, 1), (1434, 2), (1437, 1), (71, 1), (1438, 2), (1441, 1), (72, 1), (1442, 2), (1445, 1), (73, 1)] (by rfl) (by decide +kernel) w h).1
set_option maxRecDepth 20000 in
theorem lwi_24 : ∀ w ∈ wsL_law0_r24, w ∈ lw_tbl := fun w h => (goodIn_s (big := lw_tbl) wsL_law0_r24 [(1446, 5), (1452, 1), (74, 1), (1453, 2), (1456, 1), (75, 1), (1457, 1), (1050, 7), (540, 1), (542, 1), (11, 1), (543, 1), (598, 1)] (by rfl) (by decide +kernel) w h).1
set_option maxRecDepth 20000 in
theorem lwi_25 : ∀ w ∈ wsL_law0_r25, w ∈ lw_tbl := fun w h => (goodIn_s (big := lw_tbl) wsL_law0_r25 [(599, 3), (924, 4), (1458, 5), (1464, 1), (76, 1), (1465, 2), (1468, 1), (77, 1), (1469, 2), (1472, 1), (78, 1), (1473, 1), (1057, 1)] (by rfl) (by decide +kernel) w h).1
set_option maxRecDepth 20000 in
theorem lwi_26 : ∀ w ∈ wsL_law0_r26, w ∈ lw_tbl := fun w h => (goodIn_s (big := lw_tbl) wsL_law0_r26 [(1058, 6), (557, 1), (559, 1), (14, 1), (560, 1), (667, 4), (1474, 5), (1480, 1), (79, 1), (1481, 1), (1064, 2)] (by rfl) (by decide +kernel) w h).1
set_option maxRecDepth 20000 in
theorem lwi_27 : ∀ w ∈ wsL_law0_r27, w ∈ lw_tbl := fun w h => (goodIn_s (big := lw_tbl) wsL_law0_r27 [(1066, 6), (1073, 1), (44, 1), (1074, 1), (561, 1), (563, 1), (15, 1), (564, 1), (1075, 4), (1482, 4), (1079, 3)] (by rfl) (by decide +kernel) w h).1
set_option maxRecDepth 20000 in
theorem lwi_28 : ∀ w ∈ wsL_law0_r28, w ∈ lw_tbl := fun w h => (goodIn_s (big := lw_tbl) wsL_law0_r28 [(1082, 4), (671, 1), (1486, 5), (1492, 1), (80, 1), (1493, 1), (1086, 8), (1095, 1), (45, 1), (1096, 1)] (by rfl) (by decide +kernel) w h).1
set_option maxRecDepth 20000 in
theorem lwi_29 : ∀ w ∈ wsL_law0_r29, w ∈ lw_tbl := fun w h => (goodIn_s (big := lw_tbl) wsL_law0_r29 [(967, 1), (1097, 1), (1494, 4), (1098, 8), (1107, 1), (46, 1), (1108, 1), (968, 1), (1109, 4), (1498, 2)] (by rfl) (by decide +kernel) w h).1
set_option maxRecDepth 20000 in
theorem lwi_30 : ∀ w ∈ wsL_law0_r30, w ∈ lw_tbl := fun w h => (goodIn_s (big := lw_tbl) wsL_law0_r30 [(1500, 2), (1113, 7), (565, 1), (567, 1), (16, 1), (568, 2), (574, 1), (969, 1), (672, 4), (1502, 4)] (by rfl) (by decide +kernel) w h).1
set_option maxRecDepth 20000 in
theorem lwi_31 : ∀ w ∈ wsL_law0_r31, w ∈ lw_tbl := fun w h => (goodIn_s (big := lw_tbl) wsL_law0_r31 [(1506, 1), (1508, 1), (81, 1), (1509, 2), (1120, 8), (1129, 1), (47, 1), (1130, 1), (999, 4), (981, 1), (997, 1), (1131, 2)] (by rfl) (by decide +kernel) w h).1
set_option maxRecDepth 20000 in
theorem lwi_32 : ∀ w ∈ wsL_law0_r32, w ∈ lw_tbl := fun w h => (goodIn_s (big := lw_tbl) wsL_law0_r32 [(1133, 3), (1137, 1), (48, 1), (1138, 2), (962, 1), (1511, 5), (1517, 1), (82, 1), (1518, 2), (1521, 1), (83, 1), (1522, 2), (1525, 1), (84, 1), (1526, 1)] (by rfl) (by decide +kernel) w h).1
set_option maxRecDepth 20000 in
theorem lwi_33 : ∀ w ∈ wsL_law0_r33, w ∈ lw_tbl := fun w h => (goodIn_s (big := lw_tbl) wsL_law0_r33 [(1262, 1), (1527, 1), (1529, 1), (85, 1), (1530, 2), (1533, 1), (86, 1), (1534, 2), (1537, 1), (87, 1), (1538, 2), (1541, 1), (88, 1), (1542, 2), (1545, 1), (89, 1), (1546, 2), (1549, 1), (90, 1)] (by rfl) (by decide +kernel) w h).1
set_option maxRecDepth 20000 in
theorem lwi_34 : ∀ w ∈ wsL_law0_r34, w ∈ lw_tbl := fun w h => (goodIn_s (big := lw_tbl) wsL_law0_r34 [(1550, 2), (1553, 1), (91, 1), (1554, 2), (1557, 1), (92, 1), (1558, 2), (1561, 1), (93, 1), (1562, 1), (1140, 7), (577, 3), (584, 1)] (by rfl) (by decide +kernel) w h).1
set_option maxRecDepth 20000 in
theorem lwi_35 : ∀ w ∈ wsL_law0_r35, w ∈ lw_tbl := fun w h => (goodIn_s (big := lw_tbl) wsL_law0_r35 [(676, 4), (1563, 5), (1569, 1), (94, 1), (1570, 1), (1147, 7), (580, 1), (582, 1), (17, 1), (583, 1), (680, 1)] (by rfl) (by decide +kernel) w h).1
set_option maxRecDepth 20000 in
theorem lwi_36 : ∀ w ∈ wsL_law0_r36, w ∈ lw_tbl := fun w h => (goodIn_s (big := lw_tbl) wsL_law0_r36 [(681, 3), (920, 1), (922, 1), (39, 1), (923, 1), (1571, 5), (1577, 1), (95, 1), (1578, 1), (1154, 4), (950, 3), (957, 1), (959, 1)] (by rfl) (by decide +kernel) w h).1
set_option maxRecDepth 20000 in
theorem lwi_37 : ∀ w ∈ wsL_law0_r37, w ∈ lw_tbl := fun w h => (goodIn_s (big := lw_tbl) wsL_law0_r37 [(41, 1), (960, 2), (963, 4), (970, 4), (1579, 5), (1585, 1), (96, 1), (1586, 2), (1589, 1), (97, 1), (1590, 2)] (by rfl) (by decide +kernel) w h).1
set_option maxRecDepth 20000 in
theorem lwi_38 : ∀ w ∈ wsL_law0_r38, w ∈ lw_tbl := fun w h => (goodIn_s (big := lw_tbl) wsL_law0_r38 [(1593, 1), (98, 1), (1594, 2), (1597, 1), (99, 1), (1598, 1), (1158, 4), (987, 7), (995, 1), (43, 1), (996, 1), (998, 1), (1599, 2)] (by rfl) (by decide +kernel) w h).1
set_option maxRecDepth 20000 in
theorem lwi_39 : ∀ w ∈ wsL_law0_r39, w ∈ lw_tbl := fun w h => (goodIn_s (big := lw_tbl) wsL_law0_r39 [(1601, 3), (1605, 1), (100, 1), (1606, 2), (1609, 1), (101, 1), (1610, 1), (1162, 14)] (by rfl) (by decide +kernel) w h).1
set_option maxRecDepth 20000 in
theorem lwi_40 : ∀ w ∈ wsL_law0_r40, w ∈ lw_tbl := fun w h => (goodIn_s (big := lw_tbl) wsL_law0_r40 [(1176, 2), (1611, 5), (1617, 1), (102, 1), (1618, 1), (1178, 4), (975, 6), (1619, 4)] (by rfl) (by decide +kernel) w h).1
set_option maxRecDepth 20000 in
theorem lwi_41 : ∀ w ∈ wsL_law0_r41, w ∈ lw_tbl := fun w h => (goodIn_s (big := lw_tbl) wsL_law0_r41 [(1623, 1), (1625, 1), (103, 1), (1626, 1), (1182, 4), (1004, 7), (1627, 5), (1633, 1), (104, 1), (1634, 2)] (by rfl) (by decide +kernel) w h).1
set_option maxRecDepth 20000 in
theorem lwi_42 : ∀ w ∈ wsL_law0_r42, w ∈ lw_tbl := fun w h => (goodIn_s (big := lw_tbl) wsL_law0_r42 [(1637, 1), (105, 1), (1638, 2), (1641, 1), (106, 1), (1642, 1), (1186, 4), (1012, 3), (1643, 5), (1649, 1), (107, 1), (1650, 1), (1190, 2)] (by rfl) (by decide +kernel) w h).1
set_option maxRecDepth 20000 in
theorem lwi_43 : ∀ w ∈ wsL_law0_r43, w ∈ lw_tbl := fun w h => (goodIn_s (big := lw_tbl) wsL_law0_r43 [(1192, 2), (814, 3), (928, 4), (933, 12), (1651, 3)] (by rfl) (by decide +kernel) w h).1
set_option maxRecDepth 20000 in
theorem lwi_44 : ∀ w ∈ wsL_law0_r44, w ∈ lw_tbl := fun w h => (goodIn_s (big := lw_tbl) wsL_law0_r44 [(1654, 2), (1657, 1), (108, 1), (1658, 2), (1661, 1), (109, 1), (1662, 2), (1665, 1), (110, 1), (1666, 2), (1669, 1), (111, 1), (1670, 1), (1194, 7)] (by rfl) (by decide +kernel) w h).1
set_option maxRecDepth 20000 in
theorem lwi_45 : ∀ w ∈ wsL_law0_r45, w ∈ lw_tbl := fun w h => (goodIn_s (big := lw_tbl) wsL_law0_r45 [(1671, 4), (1201, 8), (1210, 1), (49, 1), (1211, 2), (1675, 5), (1681, 1), (112, 1), (1682, 1)] (by rfl) (by decide +kernel) w h).1
set_option maxRecDepth 20000 in
theorem lwi_46 : ∀ w ∈ wsL_law0_r46, w ∈ lw_tbl := fun w h => (goodIn_s (big := lw_tbl) wsL_law0_r46 [(1213, 7), (1683, 4), (1220, 8), (1229, 1), (50, 1), (1230, 1), (364, 2)] (by rfl) (by decide +kernel) w h).1
set_option maxRecDepth 20000 in
theorem lwi_47 : ∀ w ∈ wsL_law0_r47, w ∈ lw_tbl := fun w h => (goodIn_s (big := lw_tbl) wsL_law0_r47 [(366, 2), (251, 1), (1231, 5), (1687, 4), (1259, 1), (360, 4), (368, 4), (1691, 3)] (by rfl) (by decide +kernel) w h).1
set_option maxRecDepth 20000 in
theorem lwi_48 : ∀ w ∈ wsL_law0_r48, w ∈ lw_tbl := fun w h => (goodIn_s (big := lw_tbl) wsL_law0_r48 [(1694, 1), (372, 12), (252, 1), (384, 4), (254, 1), (388, 1), (390, 1), (0, 1), (391, 2)] (by rfl) (by decide +kernel) w h).1
set_option maxRecDepth 20000 in
theorem lwi_49 : ∀ w ∈ wsL_law0_r49, w ∈ lw_tbl := fun w h => (goodIn_s (big := lw_tbl) wsL_law0_r49 [(394, 1), (1, 1), (395, 1), (399, 1), (401, 1), (2, 1), (402, 1), (405, 1), (407, 1), (3, 1), (408, 4), (142, 1), (412, 1), (1759, 1), (413, 5), (1760, 1), (419, 1)] (by rfl) (by decide +kernel) w h).1
set_option maxRecDepth 20000 in
theorem lwi_50 : ∀ w ∈ wsL_law0_r50, w ∈ lw_tbl := fun w h => (goodIn_s (big := lw_tbl) wsL_law0_r50 [(420, 9), (143, 1), (429, 5), (435, 2), (144, 1), (437, 3), (145, 1), (440, 2)] (by rfl) (by decide +kernel) w h).1
set_option maxRecDepth 20000 in
theorem lwi_51 : ∀ w ∈ wsL_law0_r51, w ∈ lw_tbl := fun w h => (goodIn_s (big := lw_tbl) wsL_law0_r51 [(442, 10), (453, 1), (455, 1), (457, 1), (459, 1), (4, 1), (460, 2), (463, 1), (5, 1), (464, 2), (467, 1), (6, 1), (468, 1)] (by rfl) (by decide +kernel) w h).1
set_option maxRecDepth 20000 in
theorem lwi_52 : ∀ w ∈ wsL_law0_r52, w ∈ lw_tbl := fun w h => (goodIn_s (big := lw_tbl) wsL_law0_r52 [(508, 7), (516, 1), (9, 1), (517, 1), (522, 1), (518, 4), (524, 2), (527, 2), (140, 1), (529, 1), (1762, 1), (585, 1), (587, 1)] (by rfl) (by decide +kernel) w h).1
set_option maxRecDepth 20000 in
theorem lwi_53 : ∀ w ∈ wsL_law0_r53, w ∈ lw_tbl := fun w h => (goodIn_s (big := lw_tbl) wsL_law0_r53 [(18, 1), (588, 1), (1695, 4), (1273, 1), (1699, 1), (1701, 1), (113, 1), (1702, 2), (1705, 1), (114, 1), (1706, 2), (1709, 1), (115, 1), (1710, 2), (1713, 1), (116, 1), (1714, 1), (1274, 1)] (by rfl) (by decide +kernel) w h).1
set_option maxRecDepth 20000 in
theorem lwi_54 : ∀ w ∈ wsL_law0_r54, w ∈ lw_tbl := fun w h => (goodIn_s (big := lw_tbl) wsL_law0_r54 [(1715, 1), (1717, 1), (117, 1), (1718, 13), (1732, 1), (118, 1), (1733, 2), (1736, 1), (119, 1), (1737, 1), (1236, 1)] (by rfl) (by decide +kernel) w h).1
set_option maxRecDepth 20000 in
theorem lwi_55 : ∀ w ∈ wsL_law0_r55, w ∈ lw_tbl := fun w h => (goodIn_s (big := lw_tbl) wsL_law0_r55 [(1237, 6), (809, 4), (1243, 4), (1738, 4), (803, 6)] (by rfl) (by decide +kernel) w h).1
set_option maxRecDepth 20000 in
theorem lwi_56 : ∀ w ∈ wsL_law0_r56, w ∈ lw_tbl := fun w h => (goodIn_s (big := lw_tbl) wsL_law0_r56 [(813, 1), (945, 1), (947, 1), (40, 1), (948, 2), (974, 1), (982, 1), (984, 1), (42, 1), (985, 2), (1003, 1), (1011, 1), (1742, 5), (1276, 1), (1747, 1), (1749, 1), (120, 1), (1750, 1)] (by rfl) (by decide +kernel) w h).1
set_option maxRecDepth 20000 in
theorem lwi_57 : ∀ w ∈ wsL_law0_r57, w ∈ lw_tbl := fun w h => (goodIn_s (big := lw_tbl) wsL_law0_r57 [(1751, 2), (1754, 1), (121, 1), (1755, 1)] (by rfl) (by decide +kernel) w h).1
theorem lwa {a b T : List Cond} (ha : ∀ w ∈ a, w ∈ T) (hb : ∀ w ∈ b, w ∈ T) : ∀ w ∈ a ++ b, w ∈ T := fun w h => (List.mem_append.mp h).elim (ha w) (hb w)
theorem lwx_8 : ∀ w ∈ wsX80, w ∈ lw_tbl := by decide +kernel
theorem lwx_9 : ∀ w ∈ wsX90, w ∈ lw_tbl := by decide +kernel
theorem lwx_7 : ∀ w ∈ wsX70, w ∈ lw_tbl := by decide +kernel
theorem lwx_3 : ∀ w ∈ wsX30, w ∈ lw_tbl := by decide +kernel
theorem lwx_2 : ∀ w ∈ wsX20, w ∈ lw_tbl := by decide +kernel
theorem lwx_5 : ∀ w ∈ wsX50, w ∈ lw_tbl := by decide +kernel
theorem lwx_4 : ∀ w ∈ wsX40, w ∈ lw_tbl := by decide +kernel
theorem lwx_6 : ∀ w ∈ wsX60, w ∈ lw_tbl := by decide +kernel
theorem wsL_law_in0 : ∀ w ∈ wsL_law0, w ∈ lw_tbl := lwa (lwa (lwa (lwa (lwa (lwa (lwa (lwa (lwa (lwa lwi_1 (lwa lwi_2 (lwa lwi_3 (lwa lwi_4 (lwa lwi_5 (lwa lwi_6 (lwa lwi_7 (lwa lwi_8 (lwa lwi_9 (lwa lwi_10 (lwa lwi_11 (lwa lwi_12 (lwa lwi_13 (lwa lwi_14 (lwa lwi_15 (lwa lwi_16 (lwa lwi_17 (lwa lwi_18 (lwa lwi_19 (lwa lwi_20 (lwa lwi_21 (lwa lwi_22 (lwa lwi_23 (lwa lwi_24 (lwa lwi_25 (lwa lwi_26 (lwa lwi_27 (lwa lwi_28 (lwa lwi_29 (lwa lwi_30 (lwa lwi_31 (lwa lwi_32 (lwa lwi_33 (lwa lwi_34 (lwa lwi_35 (lwa lwi_36 (lwa lwi_37 (lwa lwi_38 (lwa lwi_39 (lwa lwi_40 (lwa lwi_41 (lwa lwi_42 (lwa lwi_43 (lwa lwi_44 (lwa lwi_45 (lwa lwi_46 (lwa lwi_47 (lwa lwi_48 (lwa lwi_49 (lwa lwi_50 (lwa lwi_51 (lwa lwi_52 (lwa lwi_53 (lwa lwi_54 (lwa lwi_55 (lwa lwi_56 (lwi_57))))))))))))))))))))))))))))))))))))))))))))))))))))))))) lwx_8) lwx_9) lwx_7) lwx_3) lwx_2) lwx_5) lwx_4) lwx_6) (fun _ h => absurd h List.not_mem_nil)
theorem wsL_law_x0 : ∀ w ∈ (vx_atS RX8 360 "java/lang/IndexOutOfBoundsException" ["java/lang/RuntimeException", "java/lang/Exception"]).filter goodWord, w ∈ lw_tbl := by decide +kernel
theorem wsL_law_x1 : ∀ w ∈ (vx_atS RX8 367 "java/lang/IllegalArgumentException" ["java/lang/RuntimeException", "java/lang/Exception"]).filter goodWord, w ∈ lw_tbl := by decide +kernel
theorem wsL_law_x2 : ∀ w ∈ (vx_atS RX8 372 "java/lang/IllegalStateException" ["java/lang/RuntimeException", "java/lang/Exception"]).filter goodWord, w ∈ lw_tbl := by decide +kernel
theorem wsL_law_in : ∀ w ∈ wsL_law, w ∈ lw_tbl := fun w h => (List.mem_append.mp h).elim (fun h => (List.mem_append.mp h).elim (fun h => (List.mem_append.mp h).elim (fun h => wsL_law_in0 w h) (fun h => wsL_law_x0 w h)) (fun h => wsL_law_x1 w h)) (fun h => wsL_law_x2 w h)
theorem nW_tbl : ∀ w ∈ nW, w ∈ lw_tbl := by decide +kernel
theorem exB_tbl : ∀ w ∈ exB, w ∈ lw_tbl := by decide +kernel
