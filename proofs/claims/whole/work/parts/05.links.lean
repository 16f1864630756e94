/-! the checks of the tables -/
def xT (ci : Nat) : u_T := match ci with
  | 0 => TX0
  | 1 => TX1
  | 2 => TX2
  | 3 => TX3
  | 4 => TX4
  | 5 => TX5
  | 6 => TX6
  | 7 => TX7
  | 8 => TX8
  | 9 => TX9
  | 10 => TX10
  | 11 => TX11
  | 12 => TX12
  | _ => TX13
theorem xcl_at {ci : Nat} (h : ci < 14) : xcl[ci]? = some (xcn ci, xT ci, xnf ci) := by
  match ci, h with
  | 0, _ => rfl
  | 1, _ => rfl
  | 2, _ => rfl
  | 3, _ => rfl
  | 4, _ => rfl
  | 5, _ => rfl
  | 6, _ => rfl
  | 7, _ => rfl
  | 8, _ => rfl
  | 9, _ => rfl
  | 10, _ => rfl
  | 11, _ => rfl
  | 12, _ => rfl
  | 13, _ => rfl
  | k + 14, h => exact absurd h (by omega)
theorem xty_ok {ci : Nat} (h : ci < 14) : ∀ k, k < xnf ci → parseFieldDescriptor (xT ci k).2.2.1 = some (xtyX ci k) := by
  match ci, h with
  | 0, _ => exact tyX0_ok
  | 1, _ => exact tyX1_ok
  | 2, _ => exact tyX2_ok
  | 3, _ => exact tyX3_ok
  | 4, _ => exact tyX4_ok
  | 5, _ => exact tyX5_ok
  | 6, _ => exact tyX6_ok
  | 7, _ => exact tyX7_ok
  | 8, _ => exact tyX8_ok
  | 9, _ => exact tyX9_ok
  | 10, _ => exact tyX10_ok
  | 11, _ => exact tyX11_ok
  | 12, _ => exact tyX12_ok
  | 13, _ => exact tyX13_ok
  | k + 14, h => exact absurd h (by omega)
theorem xnm_ok {ci : Nat} (h : ci < 14) : ∀ a, a < xnf ci → ∀ b, b < xnf ci → a ≠ b → (xT ci a).2.1 ≠ (xT ci b).2.1 := by
  match ci, h with
  | 0, _ => exact nmX0
  | 1, _ => exact nmX1
  | 2, _ => exact nmX2
  | 3, _ => exact nmX3
  | 4, _ => exact nmX4
  | 5, _ => exact nmX5
  | 6, _ => exact nmX6
  | 7, _ => exact nmX7
  | 8, _ => exact nmX8
  | 9, _ => exact nmX9
  | 10, _ => exact nmX10
  | 11, _ => exact nmX11
  | 12, _ => exact nmX12
  | 13, _ => exact nmX13
  | k + 14, h => exact absurd h (by omega)
def lw_good : List Cond := lw_tbl.filter goodWord
theorem lw_good_sub : ∀ w ∈ lw_good, w ∈ lw_tbl := fun w h => (List.mem_filter.mp h).1
theorem lw_good_of {w : Cond} (h : w ∈ lw_tbl) (hg : goodWord w = true) : w ∈ lw_good := List.mem_filter.mpr ⟨h, hg⟩
theorem lw_good_in : GoodIn lw_good lw_good := fun w h => ⟨h, good_of_word (List.mem_filter.mp h).2⟩
/-- a word by its place -/
def xat (p : Nat) (w : Cond) : Bool := decide (lw_tbl[p]? = some w)
theorem xat_mem {p : Nat} {w : Cond} (h : xat p w = true) : w ∈ lw_tbl := List.mem_of_getElem? (of_decide_eq_true h)
theorem xall_zip {α : Type} {l : List α} {ps : List Nat} {f : α → Nat → Bool} (hl : l.length = ps.length) (h : (l.zip ps).all (fun q => f q.1 q.2) = true) : ∀ q ∈ l, ∃ p, f q p = true := by
  intro q hq
  obtain ⟨i, hi⟩ := List.getElem?_of_mem hq
  have hlt : i < l.length := (List.getElem?_eq_some_iff.mp hi).1
  have hp : ps[i]? = some (ps[i]'(hl ▸ hlt)) := List.getElem?_eq_getElem _
  have hz : (l.zip ps)[i]? = some (q, ps[i]'(hl ▸ hlt)) := by
    rw [List.getElem?_zip_eq_some]
    exact ⟨hi, hp⟩
  exact ⟨_, List.all_eq_true.mp h _ (List.mem_of_getElem? hz)⟩
def xFLp : List Nat := [562, 565, 568, 571, 573, 575, 577, 579, 439, 441, 437, 204, 196, 200, 314, 326, 329, 342, 324, 263, 318, 321, 338, 340, 305, 266, 268, 570, 567, 572, 574, 564, 334, 336, 879, 887, 882, 308, 632, 624, 629, 331, 332, 875, 877, 884, 886, 168, 170, 172, 166, 317, 320, 323, 327, 262, 315, 283, 284, 285, 287, 307, 304, 626, 628, 631, 634, 615, 617, 619, 621, 623, 224, 207, 226, 228, 203, 230, 232, 192, 195, 199, 234, 881, 883, 885, 874, 876, 878, 265, 267, 261, 191, 194, 198, 202, 206, 381, 382, 383, 384, 385, 386, 387, 171, 438, 442, 563, 569, 576, 578, 580, 566, 581, 440, 193, 205, 208, 197, 201, 225, 231, 233, 389, 328, 264, 229, 235, 169, 316, 325, 319, 322, 335, 337, 343, 306, 330, 641, 642, 616, 620, 618, 622, 625, 627, 630, 633, 640, 880, 388, 638, 227, 635, 341, 167, 339, 333, 639, 636, 637, 286, 288, 173, 1170, 1171, 1172, 1173, 1174, 1175, 1176, 1177, 1178, 1179, 1180, 1181, 1185, 1186, 1187, 1188, 1189, 1190, 1191, 1192, 1193, 1194, 1195, 1196, 1197, 1198, 1199, 1200, 1201, 1202, 1203, 1204, 1205, 1206, 1207, 1208, 1209, 1210, 1211, 1212, 1213, 1216, 1217, 1218, 1219, 1220, 1221, 1222, 1223, 1224, 1225, 1226, 1227, 1228, 1229, 1230, 1231, 1232, 1233, 1234, 1235, 1236, 1237, 1238, 1239, 1240, 1241, 1242, 1243, 1244, 1245, 1246, 1247, 1248, 1249, 1250, 1251, 1253, 1254, 1255, 1256, 1257, 1182, 1252, 1215, 1184, 1259, 1260, 1258, 1214, 1183, 145, 146, 148, 147]
def xFLw (q : Nat × Nat × Nat × Nat × Nat) : Cond := .fieldLink (xcn q.1) q.2.1 (xcn q.2.2.2.2) (xT q.2.2.1 q.2.2.2.1).2.1 (xT q.2.2.1 q.2.2.2.1).2.2.1
theorem xFL_1 : (xFL.zip xFLp).all (fun q => xat q.2 (xFLw q.1)) = true := by decide +kernel
theorem xSame : Cond.sameField "java/util/ArrayList" "java/util/AbstractList" "modCount" "I" ∈ lw_tbl := xat_mem (p := 149) (by decide +kernel)
def xFLs (q : Nat × Nat × Nat × Nat × Nat) : Bool := Nat.blt q.2.2.1 14 && (Nat.blt q.2.2.2.1 (xnf q.2.2.1) && (decide (xcn q.2.2.2.2 = (xT q.2.2.1 q.2.2.2.1).1) || decide (q.2.2.1 = 13 ∧ q.2.2.2.1 = 0 ∧ q.2.2.2.2 = 13)))
theorem xFL_2 : xFL.all xFLs = true := by decide +kernel
def xMLp : List Nat := [436, 545, 546, 548, 984, 988, 997, 1007, 1001, 257, 279, 300, 959, 818, 377, 757, 758, 770, 789, 790, 814, 908, 909, 1030, 1034, 1048, 870, 904, 917, 913, 1079, 1084, 1088, 1083, 165, 752, 1053, 1055, 1056, 1057, 1058, 955, 837, 929, 798, 802, 806, 810, 794, 822, 1038, 731, 766, 762, 1006, 133, 158, 187, 220, 251, 373, 413, 421, 425, 431, 450, 511, 523, 541, 552, 558, 601, 680, 702, 417, 706, 714, 718, 726, 732, 744, 753, 779, 785, 833, 841, 851, 855, 925, 710, 859, 938, 946, 951, 964, 972, 976, 1012, 1059, 527, 1150, 1154, 748, 515, 611, 605, 736, 845, 860, 864, 980, 1008, 1016, 1020, 1049, 1024, 1025, 1026, 1063, 1071, 1092, 1096, 1104, 1113, 1117, 1122, 1126, 1067, 1075, 1100, 1108, 1109, 1121, 1130, 1166, 1464, 1512, 1516, 1539, 1632, 1559, 1563, 1555, 1471, 1448, 1452, 1456, 1467, 1479, 1492, 1504, 1508, 1519, 1527, 1535, 1543, 1547, 1551, 1577, 1601, 1585, 1589, 1581, 1593, 1597, 1680, 1609, 1612, 1636, 1640, 1644, 1652, 1664, 1672, 1616, 1620, 1624, 1628, 1648, 1656, 1660, 1668, 1676, 1684, 1720, 136, 476, 462, 466, 531, 537, 458, 454, 992, 139, 497, 534, 473, 121, 1160, 409, 1444, 519, 1460, 676, 1475, 685, 1483, 690, 1488, 694, 1496, 698, 1500, 722, 1523, 740, 1531, 775, 1567, 829, 1573, 968, 1605, 1134, 1688, 921, 1692, 930, 1696, 1138, 1700, 825, 1704, 934, 1708, 942, 1712, 947, 1716, 960, 1724, 1142, 1728, 1146, 1732]
def xMLw (q : Nat × Nat × Nat × Nat) : Cond := bif Nat.beq q.2.2.2 3 then .methodLinkNest (xcn q.1) q.2.1 (xname q.2.2.1) "RangeHouse" else .methodLink (xcn q.1) q.2.1 (xname q.2.2.1)
theorem xML_1 : (xML.zip xMLp).all (fun q => xat q.2 (xMLw q.1)) = true := by decide +kernel
def xYL : List (Nat × Nat) := [(0, 2), (1, 0), (2, 2), (3, 0), (4, 0), (5, 0), (6, 0), (7, 3), (8, 0), (9, 0), (10, 0), (11, 0), (12, 0), (13, 0), (14, 0), (15, 0), (16, 0), (17, 0), (18, 0), (19, 0), (20, 0), (21, 0), (22, 0), (23, 0), (24, 0), (25, 0), (26, 2), (27, 0), (28, 0), (29, 0), (30, 0), (31, 0), (32, 0), (33, 3), (34, 0), (35, 0), (36, 0), (37, 0), (38, 0), (39, 0), (40, 0), (41, 0), (42, 0), (43, 3), (44, 0), (45, 0), (46, 2), (47, 2), (48, 0), (49, 0), (50, 0), (51, 2), (52, 0), (53, 3), (54, 0), (55, 0), (56, 0), (57, 0), (58, 0), (59, 2), (60, 0), (61, 0), (62, 0), (63, 0), (64, 2), (65, 0), (66, 0), (67, 0), (68, 0), (69, 0), (70, 0), (71, 0), (72, 0), (73, 0), (74, 0), (75, 0), (76, 0), (77, 0), (78, 0), (79, 0), (80, 0), (81, 0), (82, 0), (83, 0), (84, 0), (85, 0), (86, 0), (87, 0), (88, 0), (89, 0), (90, 0), (91, 0), (92, 0), (93, 0), (94, 0), (95, 0), (96, 0), (97, 0), (98, 0), (99, 0), (100, 0), (101, 0), (102, 0), (103, 0), (104, 0), (105, 0), (106, 0), (107, 0), (108, 0), (109, 0), (110, 0), (111, 0), (112, 0), (113, 0), (114, 0), (115, 0), (116, 0), (117, 0), (118, 0), (119, 0), (120, 0), (121, 0), (122, 0), (123, 2), (124, 0), (125, 1), (126, 0), (127, 0), (128, 1), (129, 0), (130, 0), (131, 0), (132, 0), (133, 0), (134, 0), (135, 0), (136, 0), (137, 0), (138, 0), (139, 0), (140, 0), (141, 0), (142, 1), (143, 0), (144, 0), (145, 0), (146, 0), (147, 0), (148, 0), (149, 0), (150, 0), (151, 0), (152, 0), (153, 0), (154, 0), (155, 0), (156, 0), (157, 0), (158, 0), (159, 0), (160, 0), (161, 0), (162, 0), (163, 0), (164, 0), (165, 0), (166, 0), (167, 0), (168, 0), (169, 0), (170, 0), (171, 0), (172, 0), (173, 0), (174, 0), (175, 0), (176, 0), (177, 0), (178, 0), (179, 0), (180, 0), (181, 0), (182, 0), (183, 0), (184, 0), (185, 0), (186, 0), (187, 0), (188, 0), (189, 0), (190, 0), (191, 0), (192, 0), (193, 0), (194, 0), (195, 0), (196, 0), (197, 0), (198, 1), (201, 2), (202, 2), (203, 2), (204, 0), (205, 0), (206, 0), (207, 0), (208, 0), (209, 0), (210, 0), (211, 0), (212, 0), (213, 0), (214, 1), (215, 1), (216, 1), (217, 1), (218, 1), (219, 1), (220, 1), (221, 1)]
def xYLb : List Nat := [115, 115, 108, 108, 108, 108, 108, 103, 103, 103, 103, 103, 103, 103, 103, 103, 103, 103, 103, 103, 103, 103, 103, 103, 103, 103, 100, 100, 100, 100, 100, 100, 100, 105, 105, 105, 105, 105, 105, 105, 105, 105, 105, 106, 106, 106, 116, 101, 101, 101, 101, 118, 118, 104, 104, 104, 104, 104, 104, 102, 102, 102, 102, 102, 96, 96, 96, 96, 96, 96, 96, 96, 96, 96, 96, 96, 96, 96, 96, 96, 96, 96, 96, 96, 96, 96, 96, 96, 96, 96, 96, 96, 96, 96, 96, 96, 96, 96, 96, 96, 96, 96, 96, 96, 96, 96, 96, 96, 96, 96, 96, 96, 96, 96, 96, 96, 96, 96, 96, 96, 96, 96, 96, 107, 107, 107, 107, 107, 107, 107, 107, 107, 107, 107, 107, 107, 107, 107, 107, 107, 107, 107, 107, 107, 107, 107, 107, 107, 107, 107, 107, 107, 107, 107, 107, 107, 107, 107, 107, 107, 107, 107, 107, 107, 107, 107, 107, 107, 107, 107, 107, 107, 107, 107, 107, 107, 107, 107, 107, 107, 107, 107, 107, 107, 107, 107, 107, 107, 107, 107, 107, 107, 107, 107, 107, 107, 107, 107, 117, 97, 98, 99, 99, 99, 99, 99, 99, 99, 99, 99, 99, 99, 111, 111, 111, 111, 113, 109, 109, 114]
def xYLc : List Nat := [559, 1009, 432, 681, 542, 981, 999, 252, 1017, 838, 956, 1131, 861, 815, 374, 379, 754, 786, 1027, 1068, 865, 906, 1076, 1081, 1086, 1090, 159, 711, 749, 1050, 952, 834, 926, 280, 800, 803, 807, 795, 812, 791, 771, 819, 939, 301, 1035, 918, 612, 221, 715, 1101, 727, 871, 914, 258, 767, 910, 763, 1031, 759, 188, 549, 985, 780, 1002, 122, 410, 520, 677, 686, 691, 695, 699, 723, 741, 776, 826, 830, 922, 931, 935, 943, 948, 961, 969, 1135, 1139, 1143, 1147, 419, 704, 525, 974, 746, 415, 708, 554, 423, 1152, 1156, 966, 513, 607, 603, 720, 734, 738, 843, 853, 857, 978, 1014, 1022, 1061, 1065, 1073, 1094, 1098, 1106, 1119, 1124, 1128, 1111, 1115, 1161, 1450, 1465, 1168, 1506, 1517, 1514, 1510, 1541, 1537, 1545, 1634, 1650, 1561, 1565, 1557, 1553, 1549, 1473, 1610, 1626, 1445, 1454, 1458, 1469, 1461, 1481, 1476, 1484, 1489, 1494, 1497, 1501, 1521, 1529, 1524, 1532, 1568, 1574, 1587, 1583, 1591, 1595, 1579, 1599, 1603, 1618, 1682, 1678, 1658, 1670, 1606, 1614, 1630, 1622, 1638, 1642, 1646, 1654, 1662, 1666, 1674, 1686, 1689, 1693, 1697, 1701, 1705, 1709, 1713, 1722, 1717, 1725, 1729, 1733, 846, 140, 137, 134, 464, 460, 426, 538, 528, 456, 451, 989, 994, 516, 823, 477, 498, 1039, 532, 467, 474, 535]
def xYLd : List Nat := [0, 1010, 0, 682, 543, 982, 28, 0, 1018, 839, 957, 1132, 862, 816, 375, 0, 755, 787, 1028, 1069, 866, 23, 1077, 34, 35, 36, 0, 712, 750, 1051, 953, 835, 927, 0, 18, 804, 808, 796, 19, 792, 772, 820, 940, 0, 1036, 919, 0, 0, 716, 1102, 728, 0, 915, 0, 768, 911, 764, 1032, 760, 0, 550, 986, 781, 1003, 0, 411, 521, 678, 687, 692, 696, 700, 724, 742, 777, 827, 831, 923, 932, 936, 944, 949, 962, 970, 1136, 1140, 1144, 1148, 2, 12, 8, 25, 17, 1, 13, 9, 3, 45, 46, 24, 7, 11, 10, 14, 15, 16, 20, 21, 22, 26, 29, 30, 31, 32, 33, 37, 38, 39, 42, 43, 44, 40, 41, 0, 48, 0, 47, 55, 0, 57, 56, 61, 60, 62, 80, 84, 66, 67, 65, 64, 63, 52, 0, 78, 1446, 49, 50, 51, 1462, 53, 1477, 1485, 1490, 54, 1498, 1502, 58, 59, 1525, 1533, 1569, 1575, 70, 69, 71, 72, 68, 73, 74, 76, 92, 91, 86, 89, 1607, 75, 79, 77, 81, 82, 83, 85, 87, 88, 90, 93, 1690, 1694, 1698, 1702, 1706, 1710, 1714, 94, 1718, 1726, 1730, 1734, 0, 0, 0, 0, 6, 5, 427, 539, 529, 4, 452, 990, 27, 517, 0, 0, 0, 0, 0, 0, 0, 0]
theorem xYL_2 : (xYL.zip xYLb).all (fun q => xat q.2 (.initialized (xname q.1.1).cls)) = true := by decide +kernel
theorem xYL_3 : (xYL.zip xYLc).all (fun q => xat q.2 (bif Nat.beq q.1.2 1 then .static (xname q.1.1) else .instanceMethod (xname q.1.1))) = true := by decide +kernel
theorem xYL_4 : (xYL.zip xYLd).all (fun q => bif Nat.beq q.1.2 0 then xat q.2 (.selects (xname q.1.1).cls (xname q.1.1) (xname q.1.1)) else true) = true := by decide +kernel
set_option maxRecDepth 100000 in
theorem xyc0 : Cond.code (xname 0) (xbytes 0) (xnums 0).1 (xret 0) ∈ lw_tbl := List.mem_of_getElem? (i := 560) rfl
set_option maxRecDepth 100000 in
theorem xyc1 : Cond.code (xname 1) (xbytes 1) (xnums 1).1 (xret 1) ∈ lw_tbl := List.mem_of_getElem? (i := 1011) rfl
set_option maxRecDepth 100000 in
theorem xyc2 : Cond.code (xname 2) (xbytes 2) (xnums 2).1 (xret 2) ∈ lw_tbl := List.mem_of_getElem? (i := 433) rfl
set_option maxRecDepth 100000 in
theorem xyc3 : Cond.code (xname 3) (xbytes 3) (xnums 3).1 (xret 3) ∈ lw_tbl := List.mem_of_getElem? (i := 683) rfl
set_option maxRecDepth 100000 in
theorem xyc4 : Cond.code (xname 4) (xbytes 4) (xnums 4).1 (xret 4) ∈ lw_tbl := List.mem_of_getElem? (i := 544) rfl
set_option maxRecDepth 100000 in
theorem xyc5 : Cond.code (xname 5) (xbytes 5) (xnums 5).1 (xret 5) ∈ lw_tbl := List.mem_of_getElem? (i := 983) rfl
set_option maxRecDepth 100000 in
theorem xyc6 : Cond.code (xname 6) (xbytes 6) (xnums 6).1 (xret 6) ∈ lw_tbl := List.mem_of_getElem? (i := 1000) rfl
set_option maxRecDepth 100000 in
theorem xyc7 : Cond.code (xname 7) (xbytes 7) (xnums 7).1 (xret 7) ∈ lw_tbl := List.mem_of_getElem? (i := 253) rfl
set_option maxRecDepth 100000 in
theorem xyc8 : Cond.code (xname 8) (xbytes 8) (xnums 8).1 (xret 8) ∈ lw_tbl := List.mem_of_getElem? (i := 1019) rfl
set_option maxRecDepth 100000 in
theorem xyc9 : Cond.code (xname 9) (xbytes 9) (xnums 9).1 (xret 9) ∈ lw_tbl := List.mem_of_getElem? (i := 840) rfl
set_option maxRecDepth 100000 in
theorem xyc10 : Cond.code (xname 10) (xbytes 10) (xnums 10).1 (xret 10) ∈ lw_tbl := List.mem_of_getElem? (i := 958) rfl
set_option maxRecDepth 100000 in
theorem xyc11 : Cond.code (xname 11) (xbytes 11) (xnums 11).1 (xret 11) ∈ lw_tbl := List.mem_of_getElem? (i := 1133) rfl
set_option maxRecDepth 100000 in
theorem xyc12 : Cond.code (xname 12) (xbytes 12) (xnums 12).1 (xret 12) ∈ lw_tbl := List.mem_of_getElem? (i := 863) rfl
set_option maxRecDepth 100000 in
theorem xyc13 : Cond.code (xname 13) (xbytes 13) (xnums 13).1 (xret 13) ∈ lw_tbl := List.mem_of_getElem? (i := 817) rfl
set_option maxRecDepth 100000 in
theorem xyc14 : Cond.code (xname 14) (xbytes 14) (xnums 14).1 (xret 14) ∈ lw_tbl := List.mem_of_getElem? (i := 376) rfl
set_option maxRecDepth 100000 in
theorem xyc15 : Cond.code (xname 15) (xbytes 15) (xnums 15).1 (xret 15) ∈ lw_tbl := List.mem_of_getElem? (i := 380) rfl
set_option maxRecDepth 100000 in
theorem xyc16 : Cond.code (xname 16) (xbytes 16) (xnums 16).1 (xret 16) ∈ lw_tbl := List.mem_of_getElem? (i := 756) rfl
set_option maxRecDepth 100000 in
theorem xyc17 : Cond.code (xname 17) (xbytes 17) (xnums 17).1 (xret 17) ∈ lw_tbl := List.mem_of_getElem? (i := 788) rfl
set_option maxRecDepth 100000 in
theorem xyc18 : Cond.code (xname 18) (xbytes 18) (xnums 18).1 (xret 18) ∈ lw_tbl := List.mem_of_getElem? (i := 1029) rfl
set_option maxRecDepth 100000 in
theorem xyc19 : Cond.code (xname 19) (xbytes 19) (xnums 19).1 (xret 19) ∈ lw_tbl := List.mem_of_getElem? (i := 1070) rfl
set_option maxRecDepth 100000 in
theorem xyc20 : Cond.code (xname 20) (xbytes 20) (xnums 20).1 (xret 20) ∈ lw_tbl := List.mem_of_getElem? (i := 867) rfl
set_option maxRecDepth 100000 in
theorem xyc21 : Cond.code (xname 21) (xbytes 21) (xnums 21).1 (xret 21) ∈ lw_tbl := List.mem_of_getElem? (i := 907) rfl
set_option maxRecDepth 100000 in
theorem xyc22 : Cond.code (xname 22) (xbytes 22) (xnums 22).1 (xret 22) ∈ lw_tbl := List.mem_of_getElem? (i := 1078) rfl
set_option maxRecDepth 100000 in
theorem xyc23 : Cond.code (xname 23) (xbytes 23) (xnums 23).1 (xret 23) ∈ lw_tbl := List.mem_of_getElem? (i := 1082) rfl
set_option maxRecDepth 100000 in
theorem xyc24 : Cond.code (xname 24) (xbytes 24) (xnums 24).1 (xret 24) ∈ lw_tbl := List.mem_of_getElem? (i := 1087) rfl
set_option maxRecDepth 100000 in
theorem xyc25 : Cond.code (xname 25) (xbytes 25) (xnums 25).1 (xret 25) ∈ lw_tbl := List.mem_of_getElem? (i := 1091) rfl
set_option maxRecDepth 100000 in
theorem xyc26 : Cond.code (xname 26) (xbytes 26) (xnums 26).1 (xret 26) ∈ lw_tbl := List.mem_of_getElem? (i := 160) rfl
set_option maxRecDepth 100000 in
theorem xyc27 : Cond.code (xname 27) (xbytes 27) (xnums 27).1 (xret 27) ∈ lw_tbl := List.mem_of_getElem? (i := 713) rfl
set_option maxRecDepth 100000 in
theorem xyc28 : Cond.code (xname 28) (xbytes 28) (xnums 28).1 (xret 28) ∈ lw_tbl := List.mem_of_getElem? (i := 751) rfl
set_option maxRecDepth 100000 in
theorem xyc29 : Cond.code (xname 29) (xbytes 29) (xnums 29).1 (xret 29) ∈ lw_tbl := List.mem_of_getElem? (i := 1052) rfl
set_option maxRecDepth 100000 in
theorem xyc30 : Cond.code (xname 30) (xbytes 30) (xnums 30).1 (xret 30) ∈ lw_tbl := List.mem_of_getElem? (i := 954) rfl
set_option maxRecDepth 100000 in
theorem xyc31 : Cond.code (xname 31) (xbytes 31) (xnums 31).1 (xret 31) ∈ lw_tbl := List.mem_of_getElem? (i := 836) rfl
set_option maxRecDepth 100000 in
theorem xyc32 : Cond.code (xname 32) (xbytes 32) (xnums 32).1 (xret 32) ∈ lw_tbl := List.mem_of_getElem? (i := 928) rfl
set_option maxRecDepth 100000 in
theorem xyc33 : Cond.code (xname 33) (xbytes 33) (xnums 33).1 (xret 33) ∈ lw_tbl := List.mem_of_getElem? (i := 281) rfl
set_option maxRecDepth 100000 in
theorem xyc34 : Cond.code (xname 34) (xbytes 34) (xnums 34).1 (xret 34) ∈ lw_tbl := List.mem_of_getElem? (i := 801) rfl
set_option maxRecDepth 100000 in
theorem xyc35 : Cond.code (xname 35) (xbytes 35) (xnums 35).1 (xret 35) ∈ lw_tbl := List.mem_of_getElem? (i := 805) rfl
set_option maxRecDepth 100000 in
theorem xyc36 : Cond.code (xname 36) (xbytes 36) (xnums 36).1 (xret 36) ∈ lw_tbl := List.mem_of_getElem? (i := 809) rfl
set_option maxRecDepth 100000 in
theorem xyc37 : Cond.code (xname 37) (xbytes 37) (xnums 37).1 (xret 37) ∈ lw_tbl := List.mem_of_getElem? (i := 797) rfl
set_option maxRecDepth 100000 in
theorem xyc38 : Cond.code (xname 38) (xbytes 38) (xnums 38).1 (xret 38) ∈ lw_tbl := List.mem_of_getElem? (i := 813) rfl
set_option maxRecDepth 100000 in
theorem xyc39 : Cond.code (xname 39) (xbytes 39) (xnums 39).1 (xret 39) ∈ lw_tbl := List.mem_of_getElem? (i := 793) rfl
set_option maxRecDepth 100000 in
theorem xyc40 : Cond.code (xname 40) (xbytes 40) (xnums 40).1 (xret 40) ∈ lw_tbl := List.mem_of_getElem? (i := 773) rfl
set_option maxRecDepth 100000 in
theorem xyc41 : Cond.code (xname 41) (xbytes 41) (xnums 41).1 (xret 41) ∈ lw_tbl := List.mem_of_getElem? (i := 821) rfl
set_option maxRecDepth 100000 in
theorem xyc42 : Cond.code (xname 42) (xbytes 42) (xnums 42).1 (xret 42) ∈ lw_tbl := List.mem_of_getElem? (i := 941) rfl
set_option maxRecDepth 100000 in
theorem xyc43 : Cond.code (xname 43) (xbytes 43) (xnums 43).1 (xret 43) ∈ lw_tbl := List.mem_of_getElem? (i := 302) rfl
set_option maxRecDepth 100000 in
theorem xyc44 : Cond.code (xname 44) (xbytes 44) (xnums 44).1 (xret 44) ∈ lw_tbl := List.mem_of_getElem? (i := 1037) rfl
set_option maxRecDepth 100000 in
theorem xyc45 : Cond.code (xname 45) (xbytes 45) (xnums 45).1 (xret 45) ∈ lw_tbl := List.mem_of_getElem? (i := 920) rfl
set_option maxRecDepth 100000 in
theorem xyc46 : Cond.code (xname 46) (xbytes 46) (xnums 46).1 (xret 46) ∈ lw_tbl := List.mem_of_getElem? (i := 613) rfl
set_option maxRecDepth 100000 in
theorem xyc47 : Cond.code (xname 47) (xbytes 47) (xnums 47).1 (xret 47) ∈ lw_tbl := List.mem_of_getElem? (i := 222) rfl
set_option maxRecDepth 100000 in
theorem xyc48 : Cond.code (xname 48) (xbytes 48) (xnums 48).1 (xret 48) ∈ lw_tbl := List.mem_of_getElem? (i := 717) rfl
set_option maxRecDepth 100000 in
theorem xyc49 : Cond.code (xname 49) (xbytes 49) (xnums 49).1 (xret 49) ∈ lw_tbl := List.mem_of_getElem? (i := 1103) rfl
set_option maxRecDepth 100000 in
theorem xyc50 : Cond.code (xname 50) (xbytes 50) (xnums 50).1 (xret 50) ∈ lw_tbl := List.mem_of_getElem? (i := 729) rfl
set_option maxRecDepth 100000 in
theorem xyc51 : Cond.code (xname 51) (xbytes 51) (xnums 51).1 (xret 51) ∈ lw_tbl := List.mem_of_getElem? (i := 872) rfl
set_option maxRecDepth 100000 in
theorem xyc52 : Cond.code (xname 52) (xbytes 52) (xnums 52).1 (xret 52) ∈ lw_tbl := List.mem_of_getElem? (i := 916) rfl
set_option maxRecDepth 100000 in
theorem xyc53 : Cond.code (xname 53) (xbytes 53) (xnums 53).1 (xret 53) ∈ lw_tbl := List.mem_of_getElem? (i := 259) rfl
set_option maxRecDepth 100000 in
theorem xyc54 : Cond.code (xname 54) (xbytes 54) (xnums 54).1 (xret 54) ∈ lw_tbl := List.mem_of_getElem? (i := 769) rfl
set_option maxRecDepth 100000 in
theorem xyc55 : Cond.code (xname 55) (xbytes 55) (xnums 55).1 (xret 55) ∈ lw_tbl := List.mem_of_getElem? (i := 912) rfl
set_option maxRecDepth 100000 in
theorem xyc56 : Cond.code (xname 56) (xbytes 56) (xnums 56).1 (xret 56) ∈ lw_tbl := List.mem_of_getElem? (i := 765) rfl
set_option maxRecDepth 100000 in
theorem xyc57 : Cond.code (xname 57) (xbytes 57) (xnums 57).1 (xret 57) ∈ lw_tbl := List.mem_of_getElem? (i := 1033) rfl
set_option maxRecDepth 100000 in
theorem xyc58 : Cond.code (xname 58) (xbytes 58) (xnums 58).1 (xret 58) ∈ lw_tbl := List.mem_of_getElem? (i := 761) rfl
set_option maxRecDepth 100000 in
theorem xyc59 : Cond.code (xname 59) (xbytes 59) (xnums 59).1 (xret 59) ∈ lw_tbl := List.mem_of_getElem? (i := 189) rfl
set_option maxRecDepth 100000 in
theorem xyc60 : Cond.code (xname 60) (xbytes 60) (xnums 60).1 (xret 60) ∈ lw_tbl := List.mem_of_getElem? (i := 551) rfl
set_option maxRecDepth 100000 in
theorem xyc61 : Cond.code (xname 61) (xbytes 61) (xnums 61).1 (xret 61) ∈ lw_tbl := List.mem_of_getElem? (i := 987) rfl
set_option maxRecDepth 100000 in
theorem xyc62 : Cond.code (xname 62) (xbytes 62) (xnums 62).1 (xret 62) ∈ lw_tbl := List.mem_of_getElem? (i := 782) rfl
set_option maxRecDepth 100000 in
theorem xyc63 : Cond.code (xname 63) (xbytes 63) (xnums 63).1 (xret 63) ∈ lw_tbl := List.mem_of_getElem? (i := 1004) rfl
set_option maxRecDepth 100000 in
theorem xyc64 : Cond.code (xname 64) (xbytes 64) (xnums 64).1 (xret 64) ∈ lw_tbl := List.mem_of_getElem? (i := 123) rfl
set_option maxRecDepth 100000 in
theorem xyc65 : Cond.code (xname 65) (xbytes 65) (xnums 65).1 (xret 65) ∈ lw_tbl := List.mem_of_getElem? (i := 412) rfl
set_option maxRecDepth 100000 in
theorem xyc66 : Cond.code (xname 66) (xbytes 66) (xnums 66).1 (xret 66) ∈ lw_tbl := List.mem_of_getElem? (i := 522) rfl
set_option maxRecDepth 100000 in
theorem xyc67 : Cond.code (xname 67) (xbytes 67) (xnums 67).1 (xret 67) ∈ lw_tbl := List.mem_of_getElem? (i := 679) rfl
set_option maxRecDepth 100000 in
theorem xyc68 : Cond.code (xname 68) (xbytes 68) (xnums 68).1 (xret 68) ∈ lw_tbl := List.mem_of_getElem? (i := 688) rfl
set_option maxRecDepth 100000 in
theorem xyc69 : Cond.code (xname 69) (xbytes 69) (xnums 69).1 (xret 69) ∈ lw_tbl := List.mem_of_getElem? (i := 693) rfl
set_option maxRecDepth 100000 in
theorem xyc70 : Cond.code (xname 70) (xbytes 70) (xnums 70).1 (xret 70) ∈ lw_tbl := List.mem_of_getElem? (i := 697) rfl
set_option maxRecDepth 100000 in
theorem xyc71 : Cond.code (xname 71) (xbytes 71) (xnums 71).1 (xret 71) ∈ lw_tbl := List.mem_of_getElem? (i := 701) rfl
set_option maxRecDepth 100000 in
theorem xyc72 : Cond.code (xname 72) (xbytes 72) (xnums 72).1 (xret 72) ∈ lw_tbl := List.mem_of_getElem? (i := 725) rfl
set_option maxRecDepth 100000 in
theorem xyc73 : Cond.code (xname 73) (xbytes 73) (xnums 73).1 (xret 73) ∈ lw_tbl := List.mem_of_getElem? (i := 743) rfl
set_option maxRecDepth 100000 in
theorem xyc74 : Cond.code (xname 74) (xbytes 74) (xnums 74).1 (xret 74) ∈ lw_tbl := List.mem_of_getElem? (i := 778) rfl
set_option maxRecDepth 100000 in
theorem xyc75 : Cond.code (xname 75) (xbytes 75) (xnums 75).1 (xret 75) ∈ lw_tbl := List.mem_of_getElem? (i := 828) rfl
set_option maxRecDepth 100000 in
theorem xyc76 : Cond.code (xname 76) (xbytes 76) (xnums 76).1 (xret 76) ∈ lw_tbl := List.mem_of_getElem? (i := 832) rfl
set_option maxRecDepth 100000 in
theorem xyc77 : Cond.code (xname 77) (xbytes 77) (xnums 77).1 (xret 77) ∈ lw_tbl := List.mem_of_getElem? (i := 924) rfl
set_option maxRecDepth 100000 in
theorem xyc78 : Cond.code (xname 78) (xbytes 78) (xnums 78).1 (xret 78) ∈ lw_tbl := List.mem_of_getElem? (i := 933) rfl
set_option maxRecDepth 100000 in
theorem xyc79 : Cond.code (xname 79) (xbytes 79) (xnums 79).1 (xret 79) ∈ lw_tbl := List.mem_of_getElem? (i := 937) rfl
set_option maxRecDepth 100000 in
theorem xyc80 : Cond.code (xname 80) (xbytes 80) (xnums 80).1 (xret 80) ∈ lw_tbl := List.mem_of_getElem? (i := 945) rfl
set_option maxRecDepth 100000 in
theorem xyc81 : Cond.code (xname 81) (xbytes 81) (xnums 81).1 (xret 81) ∈ lw_tbl := List.mem_of_getElem? (i := 950) rfl
set_option maxRecDepth 100000 in
theorem xyc82 : Cond.code (xname 82) (xbytes 82) (xnums 82).1 (xret 82) ∈ lw_tbl := List.mem_of_getElem? (i := 963) rfl
set_option maxRecDepth 100000 in
theorem xyc83 : Cond.code (xname 83) (xbytes 83) (xnums 83).1 (xret 83) ∈ lw_tbl := List.mem_of_getElem? (i := 971) rfl
set_option maxRecDepth 100000 in
theorem xyc84 : Cond.code (xname 84) (xbytes 84) (xnums 84).1 (xret 84) ∈ lw_tbl := List.mem_of_getElem? (i := 1137) rfl
set_option maxRecDepth 100000 in
theorem xyc85 : Cond.code (xname 85) (xbytes 85) (xnums 85).1 (xret 85) ∈ lw_tbl := List.mem_of_getElem? (i := 1141) rfl
set_option maxRecDepth 100000 in
theorem xyc86 : Cond.code (xname 86) (xbytes 86) (xnums 86).1 (xret 86) ∈ lw_tbl := List.mem_of_getElem? (i := 1145) rfl
set_option maxRecDepth 100000 in
theorem xyc87 : Cond.code (xname 87) (xbytes 87) (xnums 87).1 (xret 87) ∈ lw_tbl := List.mem_of_getElem? (i := 1149) rfl
set_option maxRecDepth 100000 in
theorem xyc88 : Cond.code (xname 88) (xbytes 88) (xnums 88).1 (xret 88) ∈ lw_tbl := List.mem_of_getElem? (i := 420) rfl
set_option maxRecDepth 100000 in
theorem xyc89 : Cond.code (xname 89) (xbytes 89) (xnums 89).1 (xret 89) ∈ lw_tbl := List.mem_of_getElem? (i := 705) rfl
set_option maxRecDepth 100000 in
theorem xyc90 : Cond.code (xname 90) (xbytes 90) (xnums 90).1 (xret 90) ∈ lw_tbl := List.mem_of_getElem? (i := 526) rfl
set_option maxRecDepth 100000 in
theorem xyc91 : Cond.code (xname 91) (xbytes 91) (xnums 91).1 (xret 91) ∈ lw_tbl := List.mem_of_getElem? (i := 975) rfl
set_option maxRecDepth 100000 in
theorem xyc92 : Cond.code (xname 92) (xbytes 92) (xnums 92).1 (xret 92) ∈ lw_tbl := List.mem_of_getElem? (i := 747) rfl
set_option maxRecDepth 100000 in
theorem xyc93 : Cond.code (xname 93) (xbytes 93) (xnums 93).1 (xret 93) ∈ lw_tbl := List.mem_of_getElem? (i := 416) rfl
set_option maxRecDepth 100000 in
theorem xyc94 : Cond.code (xname 94) (xbytes 94) (xnums 94).1 (xret 94) ∈ lw_tbl := List.mem_of_getElem? (i := 709) rfl
set_option maxRecDepth 100000 in
theorem xyc95 : Cond.code (xname 95) (xbytes 95) (xnums 95).1 (xret 95) ∈ lw_tbl := List.mem_of_getElem? (i := 555) rfl
set_option maxRecDepth 100000 in
theorem xyc96 : Cond.code (xname 96) (xbytes 96) (xnums 96).1 (xret 96) ∈ lw_tbl := List.mem_of_getElem? (i := 424) rfl
set_option maxRecDepth 100000 in
theorem xyc97 : Cond.code (xname 97) (xbytes 97) (xnums 97).1 (xret 97) ∈ lw_tbl := List.mem_of_getElem? (i := 1153) rfl
set_option maxRecDepth 100000 in
theorem xyc98 : Cond.code (xname 98) (xbytes 98) (xnums 98).1 (xret 98) ∈ lw_tbl := List.mem_of_getElem? (i := 1157) rfl
set_option maxRecDepth 100000 in
theorem xyc99 : Cond.code (xname 99) (xbytes 99) (xnums 99).1 (xret 99) ∈ lw_tbl := List.mem_of_getElem? (i := 967) rfl
set_option maxRecDepth 100000 in
theorem xyc100 : Cond.code (xname 100) (xbytes 100) (xnums 100).1 (xret 100) ∈ lw_tbl := List.mem_of_getElem? (i := 514) rfl
set_option maxRecDepth 100000 in
theorem xyc101 : Cond.code (xname 101) (xbytes 101) (xnums 101).1 (xret 101) ∈ lw_tbl := List.mem_of_getElem? (i := 608) rfl
set_option maxRecDepth 100000 in
theorem xyc102 : Cond.code (xname 102) (xbytes 102) (xnums 102).1 (xret 102) ∈ lw_tbl := List.mem_of_getElem? (i := 604) rfl
set_option maxRecDepth 100000 in
theorem xyc103 : Cond.code (xname 103) (xbytes 103) (xnums 103).1 (xret 103) ∈ lw_tbl := List.mem_of_getElem? (i := 721) rfl
set_option maxRecDepth 100000 in
theorem xyc104 : Cond.code (xname 104) (xbytes 104) (xnums 104).1 (xret 104) ∈ lw_tbl := List.mem_of_getElem? (i := 735) rfl
set_option maxRecDepth 100000 in
theorem xyc105 : Cond.code (xname 105) (xbytes 105) (xnums 105).1 (xret 105) ∈ lw_tbl := List.mem_of_getElem? (i := 739) rfl
set_option maxRecDepth 100000 in
theorem xyc106 : Cond.code (xname 106) (xbytes 106) (xnums 106).1 (xret 106) ∈ lw_tbl := List.mem_of_getElem? (i := 844) rfl
set_option maxRecDepth 100000 in
theorem xyc107 : Cond.code (xname 107) (xbytes 107) (xnums 107).1 (xret 107) ∈ lw_tbl := List.mem_of_getElem? (i := 854) rfl
set_option maxRecDepth 100000 in
theorem xyc108 : Cond.code (xname 108) (xbytes 108) (xnums 108).1 (xret 108) ∈ lw_tbl := List.mem_of_getElem? (i := 858) rfl
set_option maxRecDepth 100000 in
theorem xyc109 : Cond.code (xname 109) (xbytes 109) (xnums 109).1 (xret 109) ∈ lw_tbl := List.mem_of_getElem? (i := 979) rfl
set_option maxRecDepth 100000 in
theorem xyc110 : Cond.code (xname 110) (xbytes 110) (xnums 110).1 (xret 110) ∈ lw_tbl := List.mem_of_getElem? (i := 1015) rfl
set_option maxRecDepth 100000 in
theorem xyc111 : Cond.code (xname 111) (xbytes 111) (xnums 111).1 (xret 111) ∈ lw_tbl := List.mem_of_getElem? (i := 1023) rfl
set_option maxRecDepth 100000 in
theorem xyc112 : Cond.code (xname 112) (xbytes 112) (xnums 112).1 (xret 112) ∈ lw_tbl := List.mem_of_getElem? (i := 1062) rfl
set_option maxRecDepth 100000 in
theorem xyc113 : Cond.code (xname 113) (xbytes 113) (xnums 113).1 (xret 113) ∈ lw_tbl := List.mem_of_getElem? (i := 1066) rfl
set_option maxRecDepth 100000 in
theorem xyc114 : Cond.code (xname 114) (xbytes 114) (xnums 114).1 (xret 114) ∈ lw_tbl := List.mem_of_getElem? (i := 1074) rfl
set_option maxRecDepth 100000 in
theorem xyc115 : Cond.code (xname 115) (xbytes 115) (xnums 115).1 (xret 115) ∈ lw_tbl := List.mem_of_getElem? (i := 1095) rfl
set_option maxRecDepth 100000 in
theorem xyc116 : Cond.code (xname 116) (xbytes 116) (xnums 116).1 (xret 116) ∈ lw_tbl := List.mem_of_getElem? (i := 1099) rfl
set_option maxRecDepth 100000 in
theorem xyc117 : Cond.code (xname 117) (xbytes 117) (xnums 117).1 (xret 117) ∈ lw_tbl := List.mem_of_getElem? (i := 1107) rfl
set_option maxRecDepth 100000 in
theorem xyc118 : Cond.code (xname 118) (xbytes 118) (xnums 118).1 (xret 118) ∈ lw_tbl := List.mem_of_getElem? (i := 1120) rfl
set_option maxRecDepth 100000 in
theorem xyc119 : Cond.code (xname 119) (xbytes 119) (xnums 119).1 (xret 119) ∈ lw_tbl := List.mem_of_getElem? (i := 1125) rfl
set_option maxRecDepth 100000 in
theorem xyc120 : Cond.code (xname 120) (xbytes 120) (xnums 120).1 (xret 120) ∈ lw_tbl := List.mem_of_getElem? (i := 1129) rfl
set_option maxRecDepth 100000 in
theorem xyc121 : Cond.code (xname 121) (xbytes 121) (xnums 121).1 (xret 121) ∈ lw_tbl := List.mem_of_getElem? (i := 1112) rfl
set_option maxRecDepth 100000 in
theorem xyc122 : Cond.code (xname 122) (xbytes 122) (xnums 122).1 (xret 122) ∈ lw_tbl := List.mem_of_getElem? (i := 1116) rfl
set_option maxRecDepth 100000 in
theorem xyc123 : Cond.code (xname 123) (xbytes 123) (xnums 123).1 (xret 123) ∈ lw_tbl := List.mem_of_getElem? (i := 1162) rfl
set_option maxRecDepth 100000 in
theorem xyc124 : Cond.code (xname 124) (xbytes 124) (xnums 124).1 (xret 124) ∈ lw_tbl := List.mem_of_getElem? (i := 1451) rfl
set_option maxRecDepth 100000 in
theorem xyc125 : Cond.code (xname 125) (xbytes 125) (xnums 125).1 (xret 125) ∈ lw_tbl := List.mem_of_getElem? (i := 1466) rfl
set_option maxRecDepth 100000 in
theorem xyc126 : Cond.code (xname 126) (xbytes 126) (xnums 126).1 (xret 126) ∈ lw_tbl := List.mem_of_getElem? (i := 1169) rfl
set_option maxRecDepth 100000 in
theorem xyc127 : Cond.code (xname 127) (xbytes 127) (xnums 127).1 (xret 127) ∈ lw_tbl := List.mem_of_getElem? (i := 1507) rfl
set_option maxRecDepth 100000 in
theorem xyc128 : Cond.code (xname 128) (xbytes 128) (xnums 128).1 (xret 128) ∈ lw_tbl := List.mem_of_getElem? (i := 1518) rfl
set_option maxRecDepth 100000 in
theorem xyc129 : Cond.code (xname 129) (xbytes 129) (xnums 129).1 (xret 129) ∈ lw_tbl := List.mem_of_getElem? (i := 1515) rfl
set_option maxRecDepth 100000 in
theorem xyc130 : Cond.code (xname 130) (xbytes 130) (xnums 130).1 (xret 130) ∈ lw_tbl := List.mem_of_getElem? (i := 1511) rfl
set_option maxRecDepth 100000 in
theorem xyc131 : Cond.code (xname 131) (xbytes 131) (xnums 131).1 (xret 131) ∈ lw_tbl := List.mem_of_getElem? (i := 1542) rfl
set_option maxRecDepth 100000 in
theorem xyc132 : Cond.code (xname 132) (xbytes 132) (xnums 132).1 (xret 132) ∈ lw_tbl := List.mem_of_getElem? (i := 1538) rfl
set_option maxRecDepth 100000 in
theorem xyc133 : Cond.code (xname 133) (xbytes 133) (xnums 133).1 (xret 133) ∈ lw_tbl := List.mem_of_getElem? (i := 1546) rfl
set_option maxRecDepth 100000 in
theorem xyc134 : Cond.code (xname 134) (xbytes 134) (xnums 134).1 (xret 134) ∈ lw_tbl := List.mem_of_getElem? (i := 1635) rfl
set_option maxRecDepth 100000 in
theorem xyc135 : Cond.code (xname 135) (xbytes 135) (xnums 135).1 (xret 135) ∈ lw_tbl := List.mem_of_getElem? (i := 1651) rfl
set_option maxRecDepth 100000 in
theorem xyc136 : Cond.code (xname 136) (xbytes 136) (xnums 136).1 (xret 136) ∈ lw_tbl := List.mem_of_getElem? (i := 1562) rfl
set_option maxRecDepth 100000 in
theorem xyc137 : Cond.code (xname 137) (xbytes 137) (xnums 137).1 (xret 137) ∈ lw_tbl := List.mem_of_getElem? (i := 1566) rfl
set_option maxRecDepth 100000 in
theorem xyc138 : Cond.code (xname 138) (xbytes 138) (xnums 138).1 (xret 138) ∈ lw_tbl := List.mem_of_getElem? (i := 1558) rfl
set_option maxRecDepth 100000 in
theorem xyc139 : Cond.code (xname 139) (xbytes 139) (xnums 139).1 (xret 139) ∈ lw_tbl := List.mem_of_getElem? (i := 1554) rfl
set_option maxRecDepth 100000 in
theorem xyc140 : Cond.code (xname 140) (xbytes 140) (xnums 140).1 (xret 140) ∈ lw_tbl := List.mem_of_getElem? (i := 1550) rfl
set_option maxRecDepth 100000 in
theorem xyc141 : Cond.code (xname 141) (xbytes 141) (xnums 141).1 (xret 141) ∈ lw_tbl := List.mem_of_getElem? (i := 1474) rfl
set_option maxRecDepth 100000 in
theorem xyc142 : Cond.code (xname 142) (xbytes 142) (xnums 142).1 (xret 142) ∈ lw_tbl := List.mem_of_getElem? (i := 1611) rfl
set_option maxRecDepth 100000 in
theorem xyc143 : Cond.code (xname 143) (xbytes 143) (xnums 143).1 (xret 143) ∈ lw_tbl := List.mem_of_getElem? (i := 1627) rfl
set_option maxRecDepth 100000 in
theorem xyc144 : Cond.code (xname 144) (xbytes 144) (xnums 144).1 (xret 144) ∈ lw_tbl := List.mem_of_getElem? (i := 1447) rfl
set_option maxRecDepth 100000 in
theorem xyc145 : Cond.code (xname 145) (xbytes 145) (xnums 145).1 (xret 145) ∈ lw_tbl := List.mem_of_getElem? (i := 1455) rfl
set_option maxRecDepth 100000 in
theorem xyc146 : Cond.code (xname 146) (xbytes 146) (xnums 146).1 (xret 146) ∈ lw_tbl := List.mem_of_getElem? (i := 1459) rfl
set_option maxRecDepth 100000 in
theorem xyc147 : Cond.code (xname 147) (xbytes 147) (xnums 147).1 (xret 147) ∈ lw_tbl := List.mem_of_getElem? (i := 1470) rfl
set_option maxRecDepth 100000 in
theorem xyc148 : Cond.code (xname 148) (xbytes 148) (xnums 148).1 (xret 148) ∈ lw_tbl := List.mem_of_getElem? (i := 1463) rfl
set_option maxRecDepth 100000 in
theorem xyc149 : Cond.code (xname 149) (xbytes 149) (xnums 149).1 (xret 149) ∈ lw_tbl := List.mem_of_getElem? (i := 1482) rfl
set_option maxRecDepth 100000 in
theorem xyc150 : Cond.code (xname 150) (xbytes 150) (xnums 150).1 (xret 150) ∈ lw_tbl := List.mem_of_getElem? (i := 1478) rfl
set_option maxRecDepth 100000 in
theorem xyc151 : Cond.code (xname 151) (xbytes 151) (xnums 151).1 (xret 151) ∈ lw_tbl := List.mem_of_getElem? (i := 1486) rfl
set_option maxRecDepth 100000 in
theorem xyc152 : Cond.code (xname 152) (xbytes 152) (xnums 152).1 (xret 152) ∈ lw_tbl := List.mem_of_getElem? (i := 1491) rfl
set_option maxRecDepth 100000 in
theorem xyc153 : Cond.code (xname 153) (xbytes 153) (xnums 153).1 (xret 153) ∈ lw_tbl := List.mem_of_getElem? (i := 1495) rfl
set_option maxRecDepth 100000 in
theorem xyc154 : Cond.code (xname 154) (xbytes 154) (xnums 154).1 (xret 154) ∈ lw_tbl := List.mem_of_getElem? (i := 1499) rfl
set_option maxRecDepth 100000 in
theorem xyc155 : Cond.code (xname 155) (xbytes 155) (xnums 155).1 (xret 155) ∈ lw_tbl := List.mem_of_getElem? (i := 1503) rfl
set_option maxRecDepth 100000 in
theorem xyc156 : Cond.code (xname 156) (xbytes 156) (xnums 156).1 (xret 156) ∈ lw_tbl := List.mem_of_getElem? (i := 1522) rfl
set_option maxRecDepth 100000 in
theorem xyc157 : Cond.code (xname 157) (xbytes 157) (xnums 157).1 (xret 157) ∈ lw_tbl := List.mem_of_getElem? (i := 1530) rfl
set_option maxRecDepth 100000 in
theorem xyc158 : Cond.code (xname 158) (xbytes 158) (xnums 158).1 (xret 158) ∈ lw_tbl := List.mem_of_getElem? (i := 1526) rfl
set_option maxRecDepth 100000 in
theorem xyc159 : Cond.code (xname 159) (xbytes 159) (xnums 159).1 (xret 159) ∈ lw_tbl := List.mem_of_getElem? (i := 1534) rfl
set_option maxRecDepth 100000 in
theorem xyc160 : Cond.code (xname 160) (xbytes 160) (xnums 160).1 (xret 160) ∈ lw_tbl := List.mem_of_getElem? (i := 1570) rfl
set_option maxRecDepth 100000 in
theorem xyc161 : Cond.code (xname 161) (xbytes 161) (xnums 161).1 (xret 161) ∈ lw_tbl := List.mem_of_getElem? (i := 1576) rfl
set_option maxRecDepth 100000 in
theorem xyc162 : Cond.code (xname 162) (xbytes 162) (xnums 162).1 (xret 162) ∈ lw_tbl := List.mem_of_getElem? (i := 1588) rfl
set_option maxRecDepth 100000 in
theorem xyc163 : Cond.code (xname 163) (xbytes 163) (xnums 163).1 (xret 163) ∈ lw_tbl := List.mem_of_getElem? (i := 1584) rfl
set_option maxRecDepth 100000 in
theorem xyc164 : Cond.code (xname 164) (xbytes 164) (xnums 164).1 (xret 164) ∈ lw_tbl := List.mem_of_getElem? (i := 1592) rfl
set_option maxRecDepth 100000 in
theorem xyc165 : Cond.code (xname 165) (xbytes 165) (xnums 165).1 (xret 165) ∈ lw_tbl := List.mem_of_getElem? (i := 1596) rfl
set_option maxRecDepth 100000 in
theorem xyc166 : Cond.code (xname 166) (xbytes 166) (xnums 166).1 (xret 166) ∈ lw_tbl := List.mem_of_getElem? (i := 1580) rfl
set_option maxRecDepth 100000 in
theorem xyc167 : Cond.code (xname 167) (xbytes 167) (xnums 167).1 (xret 167) ∈ lw_tbl := List.mem_of_getElem? (i := 1600) rfl
set_option maxRecDepth 100000 in
theorem xyc168 : Cond.code (xname 168) (xbytes 168) (xnums 168).1 (xret 168) ∈ lw_tbl := List.mem_of_getElem? (i := 1604) rfl
set_option maxRecDepth 100000 in
theorem xyc169 : Cond.code (xname 169) (xbytes 169) (xnums 169).1 (xret 169) ∈ lw_tbl := List.mem_of_getElem? (i := 1619) rfl
set_option maxRecDepth 100000 in
theorem xyc170 : Cond.code (xname 170) (xbytes 170) (xnums 170).1 (xret 170) ∈ lw_tbl := List.mem_of_getElem? (i := 1683) rfl
set_option maxRecDepth 100000 in
theorem xyc171 : Cond.code (xname 171) (xbytes 171) (xnums 171).1 (xret 171) ∈ lw_tbl := List.mem_of_getElem? (i := 1679) rfl
set_option maxRecDepth 100000 in
theorem xyc172 : Cond.code (xname 172) (xbytes 172) (xnums 172).1 (xret 172) ∈ lw_tbl := List.mem_of_getElem? (i := 1659) rfl
set_option maxRecDepth 100000 in
theorem xyc173 : Cond.code (xname 173) (xbytes 173) (xnums 173).1 (xret 173) ∈ lw_tbl := List.mem_of_getElem? (i := 1671) rfl
set_option maxRecDepth 100000 in
theorem xyc174 : Cond.code (xname 174) (xbytes 174) (xnums 174).1 (xret 174) ∈ lw_tbl := List.mem_of_getElem? (i := 1608) rfl
set_option maxRecDepth 100000 in
theorem xyc175 : Cond.code (xname 175) (xbytes 175) (xnums 175).1 (xret 175) ∈ lw_tbl := List.mem_of_getElem? (i := 1615) rfl
set_option maxRecDepth 100000 in
theorem xyc176 : Cond.code (xname 176) (xbytes 176) (xnums 176).1 (xret 176) ∈ lw_tbl := List.mem_of_getElem? (i := 1631) rfl
set_option maxRecDepth 100000 in
theorem xyc177 : Cond.code (xname 177) (xbytes 177) (xnums 177).1 (xret 177) ∈ lw_tbl := List.mem_of_getElem? (i := 1623) rfl
set_option maxRecDepth 100000 in
theorem xyc178 : Cond.code (xname 178) (xbytes 178) (xnums 178).1 (xret 178) ∈ lw_tbl := List.mem_of_getElem? (i := 1639) rfl
set_option maxRecDepth 100000 in
theorem xyc179 : Cond.code (xname 179) (xbytes 179) (xnums 179).1 (xret 179) ∈ lw_tbl := List.mem_of_getElem? (i := 1643) rfl
set_option maxRecDepth 100000 in
theorem xyc180 : Cond.code (xname 180) (xbytes 180) (xnums 180).1 (xret 180) ∈ lw_tbl := List.mem_of_getElem? (i := 1647) rfl
set_option maxRecDepth 100000 in
theorem xyc181 : Cond.code (xname 181) (xbytes 181) (xnums 181).1 (xret 181) ∈ lw_tbl := List.mem_of_getElem? (i := 1655) rfl
set_option maxRecDepth 100000 in
theorem xyc182 : Cond.code (xname 182) (xbytes 182) (xnums 182).1 (xret 182) ∈ lw_tbl := List.mem_of_getElem? (i := 1663) rfl
set_option maxRecDepth 100000 in
theorem xyc183 : Cond.code (xname 183) (xbytes 183) (xnums 183).1 (xret 183) ∈ lw_tbl := List.mem_of_getElem? (i := 1667) rfl
set_option maxRecDepth 100000 in
theorem xyc184 : Cond.code (xname 184) (xbytes 184) (xnums 184).1 (xret 184) ∈ lw_tbl := List.mem_of_getElem? (i := 1675) rfl
set_option maxRecDepth 100000 in
theorem xyc185 : Cond.code (xname 185) (xbytes 185) (xnums 185).1 (xret 185) ∈ lw_tbl := List.mem_of_getElem? (i := 1687) rfl
set_option maxRecDepth 100000 in
theorem xyc186 : Cond.code (xname 186) (xbytes 186) (xnums 186).1 (xret 186) ∈ lw_tbl := List.mem_of_getElem? (i := 1691) rfl
set_option maxRecDepth 100000 in
theorem xyc187 : Cond.code (xname 187) (xbytes 187) (xnums 187).1 (xret 187) ∈ lw_tbl := List.mem_of_getElem? (i := 1695) rfl
set_option maxRecDepth 100000 in
theorem xyc188 : Cond.code (xname 188) (xbytes 188) (xnums 188).1 (xret 188) ∈ lw_tbl := List.mem_of_getElem? (i := 1699) rfl
set_option maxRecDepth 100000 in
theorem xyc189 : Cond.code (xname 189) (xbytes 189) (xnums 189).1 (xret 189) ∈ lw_tbl := List.mem_of_getElem? (i := 1703) rfl
set_option maxRecDepth 100000 in
theorem xyc190 : Cond.code (xname 190) (xbytes 190) (xnums 190).1 (xret 190) ∈ lw_tbl := List.mem_of_getElem? (i := 1707) rfl
set_option maxRecDepth 100000 in
theorem xyc191 : Cond.code (xname 191) (xbytes 191) (xnums 191).1 (xret 191) ∈ lw_tbl := List.mem_of_getElem? (i := 1711) rfl
set_option maxRecDepth 100000 in
theorem xyc192 : Cond.code (xname 192) (xbytes 192) (xnums 192).1 (xret 192) ∈ lw_tbl := List.mem_of_getElem? (i := 1715) rfl
set_option maxRecDepth 100000 in
theorem xyc193 : Cond.code (xname 193) (xbytes 193) (xnums 193).1 (xret 193) ∈ lw_tbl := List.mem_of_getElem? (i := 1723) rfl
set_option maxRecDepth 100000 in
theorem xyc194 : Cond.code (xname 194) (xbytes 194) (xnums 194).1 (xret 194) ∈ lw_tbl := List.mem_of_getElem? (i := 1719) rfl
set_option maxRecDepth 100000 in
theorem xyc195 : Cond.code (xname 195) (xbytes 195) (xnums 195).1 (xret 195) ∈ lw_tbl := List.mem_of_getElem? (i := 1727) rfl
set_option maxRecDepth 100000 in
theorem xyc196 : Cond.code (xname 196) (xbytes 196) (xnums 196).1 (xret 196) ∈ lw_tbl := List.mem_of_getElem? (i := 1731) rfl
set_option maxRecDepth 100000 in
theorem xyc197 : Cond.code (xname 197) (xbytes 197) (xnums 197).1 (xret 197) ∈ lw_tbl := List.mem_of_getElem? (i := 1735) rfl
set_option maxRecDepth 100000 in
theorem xyc198 : Cond.code (xname 198) (xbytes 198) (xnums 198).1 (xret 198) ∈ lw_tbl := List.mem_of_getElem? (i := 847) rfl
set_option maxRecDepth 100000 in
theorem xyc201 : Cond.code (xname 201) (xbytes 201) (xnums 201).1 (xret 201) ∈ lw_tbl := List.mem_of_getElem? (i := 141) rfl
set_option maxRecDepth 100000 in
theorem xyc202 : Cond.code (xname 202) (xbytes 202) (xnums 202).1 (xret 202) ∈ lw_tbl := List.mem_of_getElem? (i := 138) rfl
set_option maxRecDepth 100000 in
theorem xyc203 : Cond.code (xname 203) (xbytes 203) (xnums 203).1 (xret 203) ∈ lw_tbl := List.mem_of_getElem? (i := 135) rfl
set_option maxRecDepth 100000 in
theorem xyc204 : Cond.code (xname 204) (xbytes 204) (xnums 204).1 (xret 204) ∈ lw_tbl := List.mem_of_getElem? (i := 465) rfl
set_option maxRecDepth 100000 in
theorem xyc205 : Cond.code (xname 205) (xbytes 205) (xnums 205).1 (xret 205) ∈ lw_tbl := List.mem_of_getElem? (i := 461) rfl
set_option maxRecDepth 100000 in
theorem xyc206 : Cond.code (xname 206) (xbytes 206) (xnums 206).1 (xret 206) ∈ lw_tbl := List.mem_of_getElem? (i := 428) rfl
set_option maxRecDepth 100000 in
theorem xyc207 : Cond.code (xname 207) (xbytes 207) (xnums 207).1 (xret 207) ∈ lw_tbl := List.mem_of_getElem? (i := 540) rfl
set_option maxRecDepth 100000 in
theorem xyc208 : Cond.code (xname 208) (xbytes 208) (xnums 208).1 (xret 208) ∈ lw_tbl := List.mem_of_getElem? (i := 530) rfl
set_option maxRecDepth 100000 in
theorem xyc209 : Cond.code (xname 209) (xbytes 209) (xnums 209).1 (xret 209) ∈ lw_tbl := List.mem_of_getElem? (i := 457) rfl
set_option maxRecDepth 100000 in
theorem xyc210 : Cond.code (xname 210) (xbytes 210) (xnums 210).1 (xret 210) ∈ lw_tbl := List.mem_of_getElem? (i := 453) rfl
set_option maxRecDepth 100000 in
theorem xyc211 : Cond.code (xname 211) (xbytes 211) (xnums 211).1 (xret 211) ∈ lw_tbl := List.mem_of_getElem? (i := 991) rfl
set_option maxRecDepth 100000 in
theorem xyc212 : Cond.code (xname 212) (xbytes 212) (xnums 212).1 (xret 212) ∈ lw_tbl := List.mem_of_getElem? (i := 995) rfl
set_option maxRecDepth 100000 in
theorem xyc213 : Cond.code (xname 213) (xbytes 213) (xnums 213).1 (xret 213) ∈ lw_tbl := List.mem_of_getElem? (i := 518) rfl
set_option maxRecDepth 100000 in
theorem xyc214 : Cond.code (xname 214) (xbytes 214) (xnums 214).1 (xret 214) ∈ lw_tbl := List.mem_of_getElem? (i := 824) rfl
set_option maxRecDepth 100000 in
theorem xyc215 : Cond.code (xname 215) (xbytes 215) (xnums 215).1 (xret 215) ∈ lw_tbl := List.mem_of_getElem? (i := 478) rfl
set_option maxRecDepth 100000 in
theorem xyc216 : Cond.code (xname 216) (xbytes 216) (xnums 216).1 (xret 216) ∈ lw_tbl := List.mem_of_getElem? (i := 499) rfl
set_option maxRecDepth 100000 in
theorem xyc217 : Cond.code (xname 217) (xbytes 217) (xnums 217).1 (xret 217) ∈ lw_tbl := List.mem_of_getElem? (i := 1040) rfl
set_option maxRecDepth 100000 in
theorem xyc218 : Cond.code (xname 218) (xbytes 218) (xnums 218).1 (xret 218) ∈ lw_tbl := List.mem_of_getElem? (i := 533) rfl
set_option maxRecDepth 100000 in
theorem xyc219 : Cond.code (xname 219) (xbytes 219) (xnums 219).1 (xret 219) ∈ lw_tbl := List.mem_of_getElem? (i := 468) rfl
set_option maxRecDepth 100000 in
theorem xyc220 : Cond.code (xname 220) (xbytes 220) (xnums 220).1 (xret 220) ∈ lw_tbl := List.mem_of_getElem? (i := 475) rfl
set_option maxRecDepth 100000 in
theorem xyc221 : Cond.code (xname 221) (xbytes 221) (xnums 221).1 (xret 221) ∈ lw_tbl := List.mem_of_getElem? (i := 536) rfl
def xcodeIn (z : Nat) : Prop := Cond.code (xname z) (xbytes z) (xnums z).1 (xret z) ∈ lw_tbl
theorem xYc_0 : ∀ q ∈ ([(0, 2), (1, 0), (2, 2), (3, 0), (4, 0), (5, 0), (6, 0), (7, 3), (8, 0), (9, 0), (10, 0), (11, 0), (12, 0), (13, 0), (14, 0), (15, 0), (16, 0), (17, 0), (18, 0), (19, 0)] : List (Nat × Nat)), xcodeIn q.1 := (List.forall_mem_cons.mpr ⟨xyc0, (List.forall_mem_cons.mpr ⟨xyc1, (List.forall_mem_cons.mpr ⟨xyc2, (List.forall_mem_cons.mpr ⟨xyc3, (List.forall_mem_cons.mpr ⟨xyc4, (List.forall_mem_cons.mpr ⟨xyc5, (List.forall_mem_cons.mpr ⟨xyc6, (List.forall_mem_cons.mpr ⟨xyc7, (List.forall_mem_cons.mpr ⟨xyc8, (List.forall_mem_cons.mpr ⟨xyc9, (List.forall_mem_cons.mpr ⟨xyc10, (List.forall_mem_cons.mpr ⟨xyc11, (List.forall_mem_cons.mpr ⟨xyc12, (List.forall_mem_cons.mpr ⟨xyc13, (List.forall_mem_cons.mpr ⟨xyc14, (List.forall_mem_cons.mpr ⟨xyc15, (List.forall_mem_cons.mpr ⟨xyc16, (List.forall_mem_cons.mpr ⟨xyc17, (List.forall_mem_cons.mpr ⟨xyc18, (List.forall_mem_cons.mpr ⟨xyc19, (fun q h => absurd h List.not_mem_nil)⟩)⟩)⟩)⟩)⟩)⟩)⟩)⟩)⟩)⟩)⟩)⟩)⟩)⟩)⟩)⟩)⟩)⟩)⟩)⟩)
theorem xYc_1 : ∀ q ∈ ([(20, 0), (21, 0), (22, 0), (23, 0), (24, 0), (25, 0), (26, 2), (27, 0), (28, 0), (29, 0), (30, 0), (31, 0), (32, 0), (33, 3), (34, 0), (35, 0), (36, 0), (37, 0), (38, 0), (39, 0)] : List (Nat × Nat)), xcodeIn q.1 := (List.forall_mem_cons.mpr ⟨xyc20, (List.forall_mem_cons.mpr ⟨xyc21, (List.forall_mem_cons.mpr ⟨xyc22, (List.forall_mem_cons.mpr ⟨xyc23, (List.forall_mem_cons.mpr ⟨xyc24, (List.forall_mem_cons.mpr ⟨xyc25, (List.forall_mem_cons.mpr ⟨xyc26, (List.forall_mem_cons.mpr ⟨xyc27, (List.forall_mem_cons.mpr ⟨xyc28, (List.forall_mem_cons.mpr ⟨xyc29, (List.forall_mem_cons.mpr ⟨xyc30, (List.forall_mem_cons.mpr ⟨xyc31, (List.forall_mem_cons.mpr ⟨xyc32, (List.forall_mem_cons.mpr ⟨xyc33, (List.forall_mem_cons.mpr ⟨xyc34, (List.forall_mem_cons.mpr ⟨xyc35, (List.forall_mem_cons.mpr ⟨xyc36, (List.forall_mem_cons.mpr ⟨xyc37, (List.forall_mem_cons.mpr ⟨xyc38, (List.forall_mem_cons.mpr ⟨xyc39, (fun q h => absurd h List.not_mem_nil)⟩)⟩)⟩)⟩)⟩)⟩)⟩)⟩)⟩)⟩)⟩)⟩)⟩)⟩)⟩)⟩)⟩)⟩)⟩)⟩)
theorem xYc_2 : ∀ q ∈ ([(40, 0), (41, 0), (42, 0), (43, 3), (44, 0), (45, 0), (46, 2), (47, 2), (48, 0), (49, 0), (50, 0), (51, 2), (52, 0), (53, 3), (54, 0), (55, 0), (56, 0), (57, 0), (58, 0), (59, 2)] : List (Nat × Nat)), xcodeIn q.1 := (List.forall_mem_cons.mpr ⟨xyc40, (List.forall_mem_cons.mpr ⟨xyc41, (List.forall_mem_cons.mpr ⟨xyc42, (List.forall_mem_cons.mpr ⟨xyc43, (List.forall_mem_cons.mpr ⟨xyc44, (List.forall_mem_cons.mpr ⟨xyc45, (List.forall_mem_cons.mpr ⟨xyc46, (List.forall_mem_cons.mpr ⟨xyc47, (List.forall_mem_cons.mpr ⟨xyc48, (List.forall_mem_cons.mpr ⟨xyc49, (List.forall_mem_cons.mpr ⟨xyc50, (List.forall_mem_cons.mpr ⟨xyc51, (List.forall_mem_cons.mpr ⟨xyc52, (List.forall_mem_cons.mpr ⟨xyc53, (List.forall_mem_cons.mpr ⟨xyc54, (List.forall_mem_cons.mpr ⟨xyc55, (List.forall_mem_cons.mpr ⟨xyc56, (List.forall_mem_cons.mpr ⟨xyc57, (List.forall_mem_cons.mpr ⟨xyc58, (List.forall_mem_cons.mpr ⟨xyc59, (fun q h => absurd h List.not_mem_nil)⟩)⟩)⟩)⟩)⟩)⟩)⟩)⟩)⟩)⟩)⟩)⟩)⟩)⟩)⟩)⟩)⟩)⟩)⟩)⟩)
theorem xYc_3 : ∀ q ∈ ([(60, 0), (61, 0), (62, 0), (63, 0), (64, 2), (65, 0), (66, 0), (67, 0), (68, 0), (69, 0), (70, 0), (71, 0), (72, 0), (73, 0), (74, 0), (75, 0), (76, 0), (77, 0), (78, 0), (79, 0)] : List (Nat × Nat)), xcodeIn q.1 := (List.forall_mem_cons.mpr ⟨xyc60, (List.forall_mem_cons.mpr ⟨xyc61, (List.forall_mem_cons.mpr ⟨xyc62, (List.forall_mem_cons.mpr ⟨xyc63, (List.forall_mem_cons.mpr ⟨xyc64, (List.forall_mem_cons.mpr ⟨xyc65, (List.forall_mem_cons.mpr ⟨xyc66, (List.forall_mem_cons.mpr ⟨xyc67, (List.forall_mem_cons.mpr ⟨xyc68, (List.forall_mem_cons.mpr ⟨xyc69, (List.forall_mem_cons.mpr ⟨xyc70, (List.forall_mem_cons.mpr ⟨xyc71, (List.forall_mem_cons.mpr ⟨xyc72, (List.forall_mem_cons.mpr ⟨xyc73, (List.forall_mem_cons.mpr ⟨xyc74, (List.forall_mem_cons.mpr ⟨xyc75, (List.forall_mem_cons.mpr ⟨xyc76, (List.forall_mem_cons.mpr ⟨xyc77, (List.forall_mem_cons.mpr ⟨xyc78, (List.forall_mem_cons.mpr ⟨xyc79, (fun q h => absurd h List.not_mem_nil)⟩)⟩)⟩)⟩)⟩)⟩)⟩)⟩)⟩)⟩)⟩)⟩)⟩)⟩)⟩)⟩)⟩)⟩)⟩)⟩)
theorem xYc_4 : ∀ q ∈ ([(80, 0), (81, 0), (82, 0), (83, 0), (84, 0), (85, 0), (86, 0), (87, 0), (88, 0), (89, 0), (90, 0), (91, 0), (92, 0), (93, 0), (94, 0), (95, 0), (96, 0), (97, 0), (98, 0), (99, 0)] : List (Nat × Nat)), xcodeIn q.1 := (List.forall_mem_cons.mpr ⟨xyc80, (List.forall_mem_cons.mpr ⟨xyc81, (List.forall_mem_cons.mpr ⟨xyc82, (List.forall_mem_cons.mpr ⟨xyc83, (List.forall_mem_cons.mpr ⟨xyc84, (List.forall_mem_cons.mpr ⟨xyc85, (List.forall_mem_cons.mpr ⟨xyc86, (List.forall_mem_cons.mpr ⟨xyc87, (List.forall_mem_cons.mpr ⟨xyc88, (List.forall_mem_cons.mpr ⟨xyc89, (List.forall_mem_cons.mpr ⟨xyc90, (List.forall_mem_cons.mpr ⟨xyc91, (List.forall_mem_cons.mpr ⟨xyc92, (List.forall_mem_cons.mpr ⟨xyc93, (List.forall_mem_cons.mpr ⟨xyc94, (List.forall_mem_cons.mpr ⟨xyc95, (List.forall_mem_cons.mpr ⟨xyc96, (List.forall_mem_cons.mpr ⟨xyc97, (List.forall_mem_cons.mpr ⟨xyc98, (List.forall_mem_cons.mpr ⟨xyc99, (fun q h => absurd h List.not_mem_nil)⟩)⟩)⟩)⟩)⟩)⟩)⟩)⟩)⟩)⟩)⟩)⟩)⟩)⟩)⟩)⟩)⟩)⟩)⟩)⟩)
theorem xYc_5 : ∀ q ∈ ([(100, 0), (101, 0), (102, 0), (103, 0), (104, 0), (105, 0), (106, 0), (107, 0), (108, 0), (109, 0), (110, 0), (111, 0), (112, 0), (113, 0), (114, 0), (115, 0), (116, 0), (117, 0), (118, 0), (119, 0)] : List (Nat × Nat)), xcodeIn q.1 := (List.forall_mem_cons.mpr ⟨xyc100, (List.forall_mem_cons.mpr ⟨xyc101, (List.forall_mem_cons.mpr ⟨xyc102, (List.forall_mem_cons.mpr ⟨xyc103, (List.forall_mem_cons.mpr ⟨xyc104, (List.forall_mem_cons.mpr ⟨xyc105, (List.forall_mem_cons.mpr ⟨xyc106, (List.forall_mem_cons.mpr ⟨xyc107, (List.forall_mem_cons.mpr ⟨xyc108, (List.forall_mem_cons.mpr ⟨xyc109, (List.forall_mem_cons.mpr ⟨xyc110, (List.forall_mem_cons.mpr ⟨xyc111, (List.forall_mem_cons.mpr ⟨xyc112, (List.forall_mem_cons.mpr ⟨xyc113, (List.forall_mem_cons.mpr ⟨xyc114, (List.forall_mem_cons.mpr ⟨xyc115, (List.forall_mem_cons.mpr ⟨xyc116, (List.forall_mem_cons.mpr ⟨xyc117, (List.forall_mem_cons.mpr ⟨xyc118, (List.forall_mem_cons.mpr ⟨xyc119, (fun q h => absurd h List.not_mem_nil)⟩)⟩)⟩)⟩)⟩)⟩)⟩)⟩)⟩)⟩)⟩)⟩)⟩)⟩)⟩)⟩)⟩)⟩)⟩)⟩)
theorem xYc_6 : ∀ q ∈ ([(120, 0), (121, 0), (122, 0), (123, 2), (124, 0), (125, 1), (126, 0), (127, 0), (128, 1), (129, 0), (130, 0), (131, 0), (132, 0), (133, 0), (134, 0), (135, 0), (136, 0), (137, 0), (138, 0), (139, 0)] : List (Nat × Nat)), xcodeIn q.1 := (List.forall_mem_cons.mpr ⟨xyc120, (List.forall_mem_cons.mpr ⟨xyc121, (List.forall_mem_cons.mpr ⟨xyc122, (List.forall_mem_cons.mpr ⟨xyc123, (List.forall_mem_cons.mpr ⟨xyc124, (List.forall_mem_cons.mpr ⟨xyc125, (List.forall_mem_cons.mpr ⟨xyc126, (List.forall_mem_cons.mpr ⟨xyc127, (List.forall_mem_cons.mpr ⟨xyc128, (List.forall_mem_cons.mpr ⟨xyc129, (List.forall_mem_cons.mpr ⟨xyc130, (List.forall_mem_cons.mpr ⟨xyc131, (List.forall_mem_cons.mpr ⟨xyc132, (List.forall_mem_cons.mpr ⟨xyc133, (List.forall_mem_cons.mpr ⟨xyc134, (List.forall_mem_cons.mpr ⟨xyc135, (List.forall_mem_cons.mpr ⟨xyc136, (List.forall_mem_cons.mpr ⟨xyc137, (List.forall_mem_cons.mpr ⟨xyc138, (List.forall_mem_cons.mpr ⟨xyc139, (fun q h => absurd h List.not_mem_nil)⟩)⟩)⟩)⟩)⟩)⟩)⟩)⟩)⟩)⟩)⟩)⟩)⟩)⟩)⟩)⟩)⟩)⟩)⟩)⟩)
theorem xYc_7 : ∀ q ∈ ([(140, 0), (141, 0), (142, 1), (143, 0), (144, 0), (145, 0), (146, 0), (147, 0), (148, 0), (149, 0), (150, 0), (151, 0), (152, 0), (153, 0), (154, 0), (155, 0), (156, 0), (157, 0), (158, 0), (159, 0)] : List (Nat × Nat)), xcodeIn q.1 := (List.forall_mem_cons.mpr ⟨xyc140, (List.forall_mem_cons.mpr ⟨xyc141, (List.forall_mem_cons.mpr ⟨xyc142, (List.forall_mem_cons.mpr ⟨xyc143, (List.forall_mem_cons.mpr ⟨xyc144, (List.forall_mem_cons.mpr ⟨xyc145, (List.forall_mem_cons.mpr ⟨xyc146, (List.forall_mem_cons.mpr ⟨xyc147, (List.forall_mem_cons.mpr ⟨xyc148, (List.forall_mem_cons.mpr ⟨xyc149, (List.forall_mem_cons.mpr ⟨xyc150, (List.forall_mem_cons.mpr ⟨xyc151, (List.forall_mem_cons.mpr ⟨xyc152, (List.forall_mem_cons.mpr ⟨xyc153, (List.forall_mem_cons.mpr ⟨xyc154, (List.forall_mem_cons.mpr ⟨xyc155, (List.forall_mem_cons.mpr ⟨xyc156, (List.forall_mem_cons.mpr ⟨xyc157, (List.forall_mem_cons.mpr ⟨xyc158, (List.forall_mem_cons.mpr ⟨xyc159, (fun q h => absurd h List.not_mem_nil)⟩)⟩)⟩)⟩)⟩)⟩)⟩)⟩)⟩)⟩)⟩)⟩)⟩)⟩)⟩)⟩)⟩)⟩)⟩)⟩)
theorem xYc_8 : ∀ q ∈ ([(160, 0), (161, 0), (162, 0), (163, 0), (164, 0), (165, 0), (166, 0), (167, 0), (168, 0), (169, 0), (170, 0), (171, 0), (172, 0), (173, 0), (174, 0), (175, 0), (176, 0), (177, 0), (178, 0), (179, 0)] : List (Nat × Nat)), xcodeIn q.1 := (List.forall_mem_cons.mpr ⟨xyc160, (List.forall_mem_cons.mpr ⟨xyc161, (List.forall_mem_cons.mpr ⟨xyc162, (List.forall_mem_cons.mpr ⟨xyc163, (List.forall_mem_cons.mpr ⟨xyc164, (List.forall_mem_cons.mpr ⟨xyc165, (List.forall_mem_cons.mpr ⟨xyc166, (List.forall_mem_cons.mpr ⟨xyc167, (List.forall_mem_cons.mpr ⟨xyc168, (List.forall_mem_cons.mpr ⟨xyc169, (List.forall_mem_cons.mpr ⟨xyc170, (List.forall_mem_cons.mpr ⟨xyc171, (List.forall_mem_cons.mpr ⟨xyc172, (List.forall_mem_cons.mpr ⟨xyc173, (List.forall_mem_cons.mpr ⟨xyc174, (List.forall_mem_cons.mpr ⟨xyc175, (List.forall_mem_cons.mpr ⟨xyc176, (List.forall_mem_cons.mpr ⟨xyc177, (List.forall_mem_cons.mpr ⟨xyc178, (List.forall_mem_cons.mpr ⟨xyc179, (fun q h => absurd h List.not_mem_nil)⟩)⟩)⟩)⟩)⟩)⟩)⟩)⟩)⟩)⟩)⟩)⟩)⟩)⟩)⟩)⟩)⟩)⟩)⟩)⟩)
theorem xYc_9 : ∀ q ∈ ([(180, 0), (181, 0), (182, 0), (183, 0), (184, 0), (185, 0), (186, 0), (187, 0), (188, 0), (189, 0), (190, 0), (191, 0), (192, 0), (193, 0), (194, 0), (195, 0), (196, 0), (197, 0), (198, 1), (201, 2)] : List (Nat × Nat)), xcodeIn q.1 := (List.forall_mem_cons.mpr ⟨xyc180, (List.forall_mem_cons.mpr ⟨xyc181, (List.forall_mem_cons.mpr ⟨xyc182, (List.forall_mem_cons.mpr ⟨xyc183, (List.forall_mem_cons.mpr ⟨xyc184, (List.forall_mem_cons.mpr ⟨xyc185, (List.forall_mem_cons.mpr ⟨xyc186, (List.forall_mem_cons.mpr ⟨xyc187, (List.forall_mem_cons.mpr ⟨xyc188, (List.forall_mem_cons.mpr ⟨xyc189, (List.forall_mem_cons.mpr ⟨xyc190, (List.forall_mem_cons.mpr ⟨xyc191, (List.forall_mem_cons.mpr ⟨xyc192, (List.forall_mem_cons.mpr ⟨xyc193, (List.forall_mem_cons.mpr ⟨xyc194, (List.forall_mem_cons.mpr ⟨xyc195, (List.forall_mem_cons.mpr ⟨xyc196, (List.forall_mem_cons.mpr ⟨xyc197, (List.forall_mem_cons.mpr ⟨xyc198, (List.forall_mem_cons.mpr ⟨xyc201, (fun q h => absurd h List.not_mem_nil)⟩)⟩)⟩)⟩)⟩)⟩)⟩)⟩)⟩)⟩)⟩)⟩)⟩)⟩)⟩)⟩)⟩)⟩)⟩)⟩)
theorem xYc_10 : ∀ q ∈ ([(202, 2), (203, 2), (204, 0), (205, 0), (206, 0), (207, 0), (208, 0), (209, 0), (210, 0), (211, 0), (212, 0), (213, 0), (214, 1), (215, 1), (216, 1), (217, 1), (218, 1), (219, 1), (220, 1), (221, 1)] : List (Nat × Nat)), xcodeIn q.1 := (List.forall_mem_cons.mpr ⟨xyc202, (List.forall_mem_cons.mpr ⟨xyc203, (List.forall_mem_cons.mpr ⟨xyc204, (List.forall_mem_cons.mpr ⟨xyc205, (List.forall_mem_cons.mpr ⟨xyc206, (List.forall_mem_cons.mpr ⟨xyc207, (List.forall_mem_cons.mpr ⟨xyc208, (List.forall_mem_cons.mpr ⟨xyc209, (List.forall_mem_cons.mpr ⟨xyc210, (List.forall_mem_cons.mpr ⟨xyc211, (List.forall_mem_cons.mpr ⟨xyc212, (List.forall_mem_cons.mpr ⟨xyc213, (List.forall_mem_cons.mpr ⟨xyc214, (List.forall_mem_cons.mpr ⟨xyc215, (List.forall_mem_cons.mpr ⟨xyc216, (List.forall_mem_cons.mpr ⟨xyc217, (List.forall_mem_cons.mpr ⟨xyc218, (List.forall_mem_cons.mpr ⟨xyc219, (List.forall_mem_cons.mpr ⟨xyc220, (List.forall_mem_cons.mpr ⟨xyc221, (fun q h => absurd h List.not_mem_nil)⟩)⟩)⟩)⟩)⟩)⟩)⟩)⟩)⟩)⟩)⟩)⟩)⟩)⟩)⟩)⟩)⟩)⟩)⟩)⟩)
set_option maxRecDepth 100000 in
theorem xYL_0 : xYL = ([(0, 2), (1, 0), (2, 2), (3, 0), (4, 0), (5, 0), (6, 0), (7, 3), (8, 0), (9, 0), (10, 0), (11, 0), (12, 0), (13, 0), (14, 0), (15, 0), (16, 0), (17, 0), (18, 0), (19, 0)] : List (Nat × Nat)) ++ (([(20, 0), (21, 0), (22, 0), (23, 0), (24, 0), (25, 0), (26, 2), (27, 0), (28, 0), (29, 0), (30, 0), (31, 0), (32, 0), (33, 3), (34, 0), (35, 0), (36, 0), (37, 0), (38, 0), (39, 0)] : List (Nat × Nat)) ++ (([(40, 0), (41, 0), (42, 0), (43, 3), (44, 0), (45, 0), (46, 2), (47, 2), (48, 0), (49, 0), (50, 0), (51, 2), (52, 0), (53, 3), (54, 0), (55, 0), (56, 0), (57, 0), (58, 0), (59, 2)] : List (Nat × Nat)) ++ (([(60, 0), (61, 0), (62, 0), (63, 0), (64, 2), (65, 0), (66, 0), (67, 0), (68, 0), (69, 0), (70, 0), (71, 0), (72, 0), (73, 0), (74, 0), (75, 0), (76, 0), (77, 0), (78, 0), (79, 0)] : List (Nat × Nat)) ++ (([(80, 0), (81, 0), (82, 0), (83, 0), (84, 0), (85, 0), (86, 0), (87, 0), (88, 0), (89, 0), (90, 0), (91, 0), (92, 0), (93, 0), (94, 0), (95, 0), (96, 0), (97, 0), (98, 0), (99, 0)] : List (Nat × Nat)) ++ (([(100, 0), (101, 0), (102, 0), (103, 0), (104, 0), (105, 0), (106, 0), (107, 0), (108, 0), (109, 0), (110, 0), (111, 0), (112, 0), (113, 0), (114, 0), (115, 0), (116, 0), (117, 0), (118, 0), (119, 0)] : List (Nat × Nat)) ++ (([(120, 0), (121, 0), (122, 0), (123, 2), (124, 0), (125, 1), (126, 0), (127, 0), (128, 1), (129, 0), (130, 0), (131, 0), (132, 0), (133, 0), (134, 0), (135, 0), (136, 0), (137, 0), (138, 0), (139, 0)] : List (Nat × Nat)) ++ (([(140, 0), (141, 0), (142, 1), (143, 0), (144, 0), (145, 0), (146, 0), (147, 0), (148, 0), (149, 0), (150, 0), (151, 0), (152, 0), (153, 0), (154, 0), (155, 0), (156, 0), (157, 0), (158, 0), (159, 0)] : List (Nat × Nat)) ++ (([(160, 0), (161, 0), (162, 0), (163, 0), (164, 0), (165, 0), (166, 0), (167, 0), (168, 0), (169, 0), (170, 0), (171, 0), (172, 0), (173, 0), (174, 0), (175, 0), (176, 0), (177, 0), (178, 0), (179, 0)] : List (Nat × Nat)) ++ (([(180, 0), (181, 0), (182, 0), (183, 0), (184, 0), (185, 0), (186, 0), (187, 0), (188, 0), (189, 0), (190, 0), (191, 0), (192, 0), (193, 0), (194, 0), (195, 0), (196, 0), (197, 0), (198, 1), (201, 2)] : List (Nat × Nat)) ++ (([(202, 2), (203, 2), (204, 0), (205, 0), (206, 0), (207, 0), (208, 0), (209, 0), (210, 0), (211, 0), (212, 0), (213, 0), (214, 1), (215, 1), (216, 1), (217, 1), (218, 1), (219, 1), (220, 1), (221, 1)] : List (Nat × Nat)))))))))))) := rfl
theorem xYL_1 : ∀ q ∈ xYL, xcodeIn q.1 := by
  rw [xYL_0]
  exact (fun q h => (List.mem_append.mp h).elim (xYc_0 q) ((fun q h => (List.mem_append.mp h).elim (xYc_1 q) ((fun q h => (List.mem_append.mp h).elim (xYc_2 q) ((fun q h => (List.mem_append.mp h).elim (xYc_3 q) ((fun q h => (List.mem_append.mp h).elim (xYc_4 q) ((fun q h => (List.mem_append.mp h).elim (xYc_5 q) ((fun q h => (List.mem_append.mp h).elim (xYc_6 q) ((fun q h => (List.mem_append.mp h).elim (xYc_7 q) ((fun q h => (List.mem_append.mp h).elim (xYc_8 q) ((fun q h => (List.mem_append.mp h).elim (xYc_9 q) (xYc_10 q)) q)) q)) q)) q)) q)) q)) q)) q)) q))
/-- of a called method: its class is known by its number, it is plain, its kind fits its name -/
def xYLs (q : Nat × Nat) : Bool := decide ((xname q.1).cls = xcn (xnums q.1).2.1) && (plainName (xname q.1).cls && (decide ((xname q.1).cls ≠ "java/lang/invoke/MethodHandle") && (decide ((xname q.1).cls ≠ "java/lang/invoke/VarHandle") && (bif Nat.ble 2 q.2 then decide ((xname q.1).name = "<init>") && decide (xret q.1 = none) else bif Nat.beq q.2 0 then Nat.blt (xnums q.1).2.1 14 else true))))
theorem xYL_5 : xYL.all xYLs = true := by decide +kernel
theorem xYL_6 : xML.all (fun q => xYL.any (fun r => Nat.beq r.1 q.2.2.1 && Nat.beq r.2 q.2.2.2)) = true := by decide +kernel
def xCLp : List Nat := [435, 684, 547, 255, 277, 298, 868, 162, 164, 1054, 730, 1005, 127, 129, 131, 185, 249, 429, 556, 609, 119, 1158]
theorem xCL_1 : (xCL.zip xCLp).all (fun q => Nat.blt q.1.2.2 14 && xat q.2 (.classLink (xcn q.1.1) q.1.2.1 (xcn q.1.2.2))) = true := by decide +kernel
def xaC (t : Nat) : String := match t with
  | 3 => "java/lang/Object"
  | 4 => "RangeHouse$Host"
  | 5 => "RangeHouse$Page"
  | _ => "RangeHouse$Holding"
def xALp : List Nat := [162, 127, 129, 510, 502]
theorem xAL_1 : (xAL.zip xALp).all (fun q => xtR q.1.2.2 && xat q.2 (.classLink (xcn q.1.1) q.1.2.1 (xaC q.1.2.2))) = true := by decide +kernel
def xKLp : List Nat := [1164, 1165, 848, 849, 850, 472]
theorem xKL_1 : (xKL.zip xKLp).all (fun q => xat q.2 (.constant (xcn q.1.1) q.1.2.1 (xcI q.1.2.2))) = true := by decide +kernel
def xKJp : List Nat := [689, 1487, 1736]
theorem xKJ_1 : (xKJ.zip xKJp).all (fun q => xat q.2 (.constantLong (xcn q.1.1) q.1.2.1 (xcL q.1.2.2))) = true := by decide +kernel
def xIp : List Nat := [557, 430, 250, 157, 278, 299, 610, 184, 869, 256, 186, 120, 1159, 132]
theorem xI_1 : ((List.range 14).zip xIp).all (fun q => xat q.2 (.instantiable (xcn q.1) (xnf q.1))) = true := by decide +kernel
def xNp : List Nat := [115, 108, 103, 100, 105, 106, 116, 101, 118, 104, 102, 96, 107, 99]
theorem xN_1 : ((List.range 14).zip xNp).all (fun q => xat q.2 (.initialized (xcn q.1))) = true := by decide +kernel
def xOL : List (Nat × Nat) := [(11, 1), (15, 1), (3, 3), (10, 1), (7, 3), (2, 3), (9, 3), (4, 3), (5, 1), (1, 1), (0, 1), (6, 3), (8, 3), (12, 3)]
def xOLp : List Nat := [124, 142, 161, 190, 223, 254, 260, 282, 303, 434, 561, 614, 873, 1163]
theorem xOL_1 : (xOL.zip xOLp).all (fun q => xat q.2 (.methodLink (xcn q.1.1) q.1.2 objectInit)) = true := by decide +kernel
def xRL : List (Nat × Nat) := [(16, 150), (4, 45), (13, 112)]
def xRLp : List Nat := [506, 774, 996]
theorem xRL_1 : (xRL.zip xRLp).all (fun q => xat q.2 (.methodLink (xcn q.1.1) q.1.2 arraycopyName)) = true := by decide +kernel
def xXL : List (Nat × Nat) := [(20, 194), (13, 79), (11, 216), (12, 366)]
def xXLp : List Nat := [469, 509, 783, 1572]
theorem xXL_1 : (xXL.zip xXLp).all (fun q => xat q.2 (.methodLink (xcn q.1.1) q.1.2 Lib.Math.max.name)) = true := by decide +kernel
def xUL : List (Nat × Nat) := [(16, 304), (11, 222), (12, 361)]
def xULp : List Nat := [503, 784, 1571]
theorem xUL_1 : (xUL.zip xULp).all (fun q => xat q.2 (.methodLink (xcn q.1.1) q.1.2 Lib.Math.min.name)) = true := by decide +kernel
set_option maxRecDepth 100000 in
theorem xw_obj2 : Cond.code objectInit ⟨#[0xb1]⟩ 1 none ∈ lw_tbl := List.mem_of_getElem? (i := 126) rfl
set_option maxRecDepth 100000 in
theorem xw_mmax2 : Cond.code Lib.Math.max.name Lib.Math.max.code 2 (some .int) ∈ lw_tbl := List.mem_of_getElem? (i := 471) rfl
set_option maxRecDepth 100000 in
theorem xw_mmin2 : Cond.code Lib.Math.min.name Lib.Math.min.code 2 (some .int) ∈ lw_tbl := List.mem_of_getElem? (i := 505) rfl
theorem xw_obj1 : Cond.instanceMethod objectInit ∈ lw_tbl := xat_mem (p := 125) (by decide +kernel)
theorem xw_ac1 : Cond.native arraycopyName ∈ lw_tbl := xat_mem (p := 508) (by decide +kernel)
theorem xw_ac2 : Cond.static arraycopyName ∈ lw_tbl := xat_mem (p := 507) (by decide +kernel)
theorem xw_ac3 : Cond.initialized "java/lang/System" ∈ lw_tbl := xat_mem (p := 112) (by decide +kernel)
theorem xw_gc1 : Cond.methodLink "java/util/Arrays" 86 ⟨"java/lang/Object", "getClass", "()Ljava/lang/Class;"⟩ ∈ lw_tbl := xat_mem (p := 479) (by decide +kernel)
theorem xw_gc2 : Cond.declares ⟨"java/lang/Object", "getClass", "()Ljava/lang/Class;"⟩ ∈ lw_tbl := xat_mem (p := 1753) (by decide +kernel)
theorem xw_gc3 : Cond.selects "[Ljava/lang/Object;" ⟨"java/lang/Object", "getClass", "()Ljava/lang/Class;"⟩ ⟨"java/lang/Object", "getClass", "()Ljava/lang/Class;"⟩ ∈ lw_tbl := xat_mem (p := 1752) (by decide +kernel)
theorem xw_gc4 : Cond.instanceMethod ⟨"java/lang/Object", "getClass", "()Ljava/lang/Class;"⟩ ∈ lw_tbl := xat_mem (p := 480) (by decide +kernel)
theorem xw_gc5 : Cond.native ⟨"java/lang/Object", "getClass", "()Ljava/lang/Class;"⟩ ∈ lw_tbl := xat_mem (p := 496) (by decide +kernel)
theorem xw_ldm : Cond.classLink "java/util/Arrays" 110 "[Ljava/lang/Object;" ∈ lw_tbl := xat_mem (p := 500) (by decide +kernel)
theorem xw_st1 : Cond.fieldLink "java/util/ArrayList" 39 "java/util/ArrayList" "DEFAULTCAPACITY_EMPTY_ELEMENTDATA" "[Ljava/lang/Object;" ∈ lw_tbl := xat_mem (p := 143) (by decide +kernel)
theorem xw_st2 : Cond.laysStatic "java/util/ArrayList" "DEFAULTCAPACITY_EMPTY_ELEMENTDATA" "[Ljava/lang/Object;" ∈ lw_tbl := xat_mem (p := 144) (by decide +kernel)
theorem xw_a0 : Cond.arrayClass .int ∈ lw_tbl := xat_mem (p := 183) (by decide +kernel)
theorem xw_a1 : Cond.arrayClass .long ∈ lw_tbl := xat_mem (p := 276) (by decide +kernel)
theorem xw_a2 : Cond.arrayClass .boolean ∈ lw_tbl := xat_mem (p := 903) (by decide +kernel)
theorem xw_mmax1 : Cond.static Lib.Math.max.name ∈ lw_tbl := xat_mem (p := 470) (by decide +kernel)
theorem xw_mmin1 : Cond.static Lib.Math.min.name ∈ lw_tbl := xat_mem (p := 504) (by decide +kernel)
theorem xw_m0 : Cond.initialized "java/lang/Math" ∈ lw_tbl := xat_mem (p := 110) (by decide +kernel)
theorem xw_ao3 : Cond.arrayOver (.object "java/lang/Object") ∈ lw_tbl := xat_mem (p := 501) (by decide +kernel)
theorem xw_ao4 : Cond.arrayOver (.object "RangeHouse$Host") ∈ lw_tbl := xat_mem (p := 128) (by decide +kernel)
theorem xw_ao5 : Cond.arrayOver (.object "RangeHouse$Page") ∈ lw_tbl := xat_mem (p := 130) (by decide +kernel)
theorem xw_ao6 : Cond.arrayOver (.object "RangeHouse$Holding") ∈ lw_tbl := xat_mem (p := 163) (by decide +kernel)
def xGp : List Nat := [1748, 1747, 1739, 1737, 1744, 1745, 1749, 1738, 1750, 1743, 1742, 1740, 1746, 1741]
theorem xG_1 : ((List.range 14).zip xGp).all (fun q => xat q.2 (.castable (xcn q.1) "java/lang/Object")) = true := by decide +kernel
