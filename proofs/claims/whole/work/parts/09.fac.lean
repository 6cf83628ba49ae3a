/-! what the tables say, for all rows of a list at once -/
def gTX : Nat → u_T
  | 0 => TX0
  | 1 => TX1
  | 2 => TX2
  | 3 => TX3
  | 4 => TX4
  | 5 => TX5
  | 6 => TX6
  | 7 => TX7
  | 8 => TX8
  | 9 => TX9
  | 10 => TX10
  | 11 => TX11
  | _ => TX12
def gTyX : Nat → Nat → FieldType
  | 0 => tyX0
  | 1 => tyX1
  | 2 => tyX2
  | 3 => tyX3
  | 4 => tyX4
  | 5 => tyX5
  | 6 => tyX6
  | 7 => tyX7
  | 8 => tyX8
  | 9 => tyX9
  | 10 => tyX10
  | 11 => tyX11
  | _ => tyX12
def tcT : FieldType → Nat → Bool
  | .int, 0 => true
  | .long, 1 => true
  | .object _, 2 => true
  | .array _, 2 => true
  | .boolean, 3 => true
  | _, _ => false
theorem u_good {C : String} {T : u_T} {N : Nat} : ∀ w ∈ u_ws C T N, goodWord w = true := by
  intro w hw
  obtain ⟨j, -, rfl⟩ := List.mem_map.mp hw
  unfold u_lay
  split <;> rfl
theorem gAll_u {C : String} {T : u_T} {N : Nat} (h : ∀ w ∈ u_ws C T N, w ∈ tables_1) : ∀ w ∈ u_ws C T N, w ∈ gAll := fun w hw => gAll_t (h w hw) (u_good w hw)
def kindOK (k : Nat) : Prop := vwCl[k]? = some (gC k, gTX k, gN k) ∧ (∀ w ∈ u_ws (gC k) (gTX k) (gN k), w ∈ gAll) ∧ (∀ j, j < gN k → parseFieldDescriptor (gTX k j).2.2.1 = some (gTyX k j)) ∧ (∀ a, a < gN k → ∀ b, b < gN k → a ≠ b → (gTX k a).2.1 ≠ (gTX k b).2.1) ∧ (∀ j, j < gN k → tcT (gTyX k j) (gTc k j) = true ∧ (gTX k j).1 = gC k)
set_option maxRecDepth 100000 in
theorem kind_0 : kindOK 0 := ⟨rfl, gAll_u inT0, tyX0_ok, nmX0, by decide +kernel⟩
set_option maxRecDepth 100000 in
theorem kind_1 : kindOK 1 := ⟨rfl, gAll_u inT1, tyX1_ok, nmX1, by decide +kernel⟩
set_option maxRecDepth 100000 in
theorem kind_2 : kindOK 2 := ⟨rfl, gAll_u inT2, tyX2_ok, nmX2, by decide +kernel⟩
set_option maxRecDepth 100000 in
theorem kind_3 : kindOK 3 := ⟨rfl, gAll_u inT3, tyX3_ok, nmX3, by decide +kernel⟩
set_option maxRecDepth 100000 in
theorem kind_4 : kindOK 4 := ⟨rfl, gAll_u inT4, tyX4_ok, nmX4, by decide +kernel⟩
set_option maxRecDepth 100000 in
theorem kind_5 : kindOK 5 := ⟨rfl, gAll_u inT5, tyX5_ok, nmX5, by decide +kernel⟩
set_option maxRecDepth 100000 in
theorem kind_6 : kindOK 6 := ⟨rfl, gAll_u inT6, tyX6_ok, nmX6, by decide +kernel⟩
set_option maxRecDepth 100000 in
theorem kind_7 : kindOK 7 := ⟨rfl, gAll_u inT7, tyX7_ok, nmX7, by decide +kernel⟩
set_option maxRecDepth 100000 in
theorem kind_8 : kindOK 8 := ⟨rfl, gAll_u inT8, tyX8_ok, nmX8, by decide +kernel⟩
set_option maxRecDepth 100000 in
theorem kind_9 : kindOK 9 := ⟨rfl, gAll_u inT9, tyX9_ok, nmX9, by decide +kernel⟩
set_option maxRecDepth 100000 in
theorem kind_10 : kindOK 10 := ⟨rfl, gAll_u inT10, tyX10_ok, nmX10, by decide +kernel⟩
set_option maxRecDepth 100000 in
theorem kind_11 : kindOK 11 := ⟨rfl, gAll_u inT11, tyX11_ok, nmX11, by decide +kernel⟩
set_option maxRecDepth 100000 in
theorem kind_12 : kindOK 12 := ⟨rfl, gAll_u inT12, tyX12_ok, nmX12, by decide +kernel⟩
theorem kind_ok : ∀ k, k < 13 → kindOK k
  | 0, _ => kind_0
  | 1, _ => kind_1
  | 2, _ => kind_2
  | 3, _ => kind_3
  | 4, _ => kind_4
  | 5, _ => kind_5
  | 6, _ => kind_6
  | 7, _ => kind_7
  | 8, _ => kind_8
  | 9, _ => kind_9
  | 10, _ => kind_10
  | 11, _ => kind_11
  | 12, _ => kind_12
  | n + 13, h => absurd h (by omega)
theorem zip_mem {α β : Type} : ∀ {a : List α} {b : List β}, a.length = b.length → ∀ {x : α}, x ∈ a → ∃ y, (x, y) ∈ a.zip b
  | [], _, _, _, h => absurd h List.not_mem_nil
  | x :: a, [], hl, _, _ => by simp at hl
  | x :: a, y :: b, hl, z, h => by
    rcases List.mem_cons.mp h with rfl | h
    · exact ⟨y, List.mem_cons_self⟩
    · obtain ⟨w, hw⟩ := zip_mem (a := a) (b := b) (by simpa using hl) h
      exact ⟨w, List.mem_cons_of_mem _ hw⟩
theorem pos_ok {α : Type} {l : List α} {ps : List Nat} {f : α → Cond} (hl : l.length = ps.length) (h : ∀ q ∈ l.zip ps, tables_1[q.2]? = some (f q.1) ∧ goodWord (f q.1) = true) : ∀ x ∈ l, f x ∈ gAll := fun x hx => by
  obtain ⟨y, hy⟩ := zip_mem hl hx
  exact gAll_t (List.mem_of_getElem? (h _ hy).1) (h _ hy).2
def wF (e : Nat × Nat × Nat) : Cond := .fieldLink (gC e.1) e.2.1 (gC (e.2.2 / 1000)) (gTX (e.2.2 / 1000) (e.2.2 / 10 % 100)).2.1 (gTX (e.2.2 / 1000) (e.2.2 / 10 % 100)).2.2.1
set_option maxRecDepth 1000000 in
theorem gF_w : ∀ e ∈ gF, wF e ∈ gAll := pos_ok (ps := gFp) rfl (by decide +kernel)
set_option maxRecDepth 1000000 in
theorem gF_n : ∀ e ∈ gF, e.2.2 / 1000 < 13 ∧ e.2.2 / 10 % 100 < gN (e.2.2 / 1000) ∧ gTc (e.2.2 / 1000) (e.2.2 / 10 % 100) = e.2.2 % 10 := by decide +kernel
def wL (e : Nat × Nat × Nat) : Cond := .methodLink (gC e.1) e.2.1 (gY e.2.2)
set_option maxRecDepth 1000000 in
theorem gLk_w : ∀ e ∈ gLk, wL e ∈ gAll := pos_ok (ps := gLkp) rfl (by decide +kernel)
set_option maxRecDepth 1000000 in
theorem gLk_n : ∀ e ∈ gLk, e.2.2 < gLAW := by decide +kernel
def wNk (e : Nat × Nat × Nat) : Cond := .methodLinkNest (gC e.1) e.2.1 (gY e.2.2) "DiceRing"
set_option maxRecDepth 1000000 in
theorem gNk_w : ∀ e ∈ gNk, wNk e ∈ gAll := pos_ok (ps := gNkp) rfl (by decide +kernel)
set_option maxRecDepth 1000000 in
theorem gNk_n : ∀ e ∈ gNk, e.2.2 < 271 ∧ gSt e.2.2 = 2 := by decide +kernel
def wCl (e : Nat × Nat × Nat) : Cond := .classLink (gC e.1) e.2.1 (gC e.2.2)
set_option maxRecDepth 1000000 in
theorem gCl_w : ∀ e ∈ gCl, wCl e ∈ gAll := pos_ok (ps := gClp) rfl (by decide +kernel)
set_option maxRecDepth 1000000 in
theorem gCl_n : ∀ e ∈ gCl, e.2.2 < 13 := by decide +kernel
def wKI (e : Nat × Nat × Int) : Cond := .constant (gC e.1) e.2.1 (Int32.ofInt e.2.2)
set_option maxRecDepth 1000000 in
theorem gKI_w : ∀ e ∈ gKI, wKI e ∈ gAll := pos_ok (ps := gKIp) rfl (by decide +kernel)
def wKL (e : Nat × Nat × Int) : Cond := .constantLong (gC e.1) e.2.1 (Int64.ofInt e.2.2)
set_option maxRecDepth 1000000 in
theorem gKL_w : ∀ e ∈ gKL, wKL e ∈ gAll := pos_ok (ps := gKLp) rfl (by decide +kernel)
def wIn (k : Nat) : Cond := .instantiable (gC k) (gN k)
def wIi (k : Nat) : Cond := .initialized (gC k)
set_option maxRecDepth 1000000 in
theorem gIn_w : ∀ k ∈ List.range 13, wIn k ∈ gAll := pos_ok (ps := [118, 227, 205, 183, 233, 90, 39, 32, 84, 299, 324, 24, 1201]) rfl (by decide +kernel)
set_option maxRecDepth 1000000 in
theorem gIi_w : ∀ k ∈ List.range 13, wIi k ∈ gAll := pos_ok (ps := [6, 9, 8, 7, 10, 5, 3, 2, 4, 11, 12, 1, 13]) rfl (by decide +kernel)
theorem aW : ∀ t : ArrayType, 13 ≤ atk t → Cond.arrayClass (newarray.typeOf t) ∈ gAll := by
  intro t ht
  cases t
  case byte => exact gAll_t (List.mem_of_getElem? (i := 1383) (by decide +kernel)) rfl
  case int => exact gAll_t (List.mem_of_getElem? (i := 65) (by decide +kernel)) rfl
  case long => exact gAll_t (List.mem_of_getElem? (i := 66) (by decide +kernel)) rfl
  case boolean => exact gAll_t (List.mem_of_getElem? (i := 1384) (by decide +kernel)) rfl
  all_goals exact absurd ht (by decide)
theorem aoW : Cond.arrayOver (.object "DiceRing$Row") ∈ gAll := gAll_t (List.mem_of_getElem? (i := 38) (by decide +kernel)) rfl
/-! methods that are called by a contract: 0 to 270, 275 to 280 -/
def gPl : List Nat := List.range 271 ++ [275, 276, 277, 278, 279, 280]
def wCd (k : Nat) : Cond := .code (gY k) (gB k) (gML k) (gRt k)
set_option maxRecDepth 1000000 in
theorem gCd_w : ∀ k ∈ gPl, wCd k ∈ gAll := pos_ok (ps := [121, 537, 569, 565, 561, 557, 615, 636, 603, 640, 607, 623, 581, 230, 867, 876, 881, 886, 890, 894, 898, 909, 901, 905, 208, 817, 821, 825, 832, 835, 839, 843, 854, 186, 723, 733, 758, 741, 745, 750, 754, 766, 774, 778, 786, 790, 804, 808, 236, 871, 913, 918, 1184, 1188, 93, 443, 646, 521, 475, 454, 450, 464, 457, 460, 467, 42, 513, 136, 132, 128, 509, 619, 627, 632, 584, 599, 590, 594, 708, 700, 1165, 1161, 1173, 1168, 846, 1077, 1199, 35, 674, 504, 666, 662, 496, 525, 87, 439, 650, 479, 483, 471, 487, 490, 500, 529, 533, 541, 545, 553, 549, 573, 577, 611, 302, 936, 941, 944, 957, 961, 977, 965, 953, 949, 969, 327, 990, 994, 1040, 1043, 1025, 998, 1003, 1014, 1018, 1022, 1029, 1007, 1051, 27, 419, 423, 427, 435, 431, 654, 658, 1088, 670, 680, 1156, 689, 693, 685, 704, 719, 715, 737, 762, 770, 782, 800, 812, 850, 858, 862, 1180, 923, 927, 932, 973, 981, 986, 1036, 1047, 1055, 1059, 1064, 1068, 1073, 1195, 1204, 1388, 1531, 1392, 1396, 1400, 1408, 1479, 1559, 1662, 1456, 1491, 1487, 1507, 1503, 1499, 1416, 1419, 1422, 1412, 1436, 1431, 1468, 1464, 1483, 1440, 1448, 1426, 1452, 1460, 1476, 1472, 1495, 1404, 1519, 1527, 1535, 1539, 1523, 1543, 1548, 1556, 1552, 1511, 1515, 1567, 1563, 1571, 1579, 1575, 1587, 1583, 1591, 1595, 1602, 1599, 1606, 1610, 1614, 1618, 1622, 1626, 1634, 1630, 1638, 1650, 1642, 1646, 1654, 1681, 1677, 1674, 1666, 1670, 1658, 1689, 1685, 1693, 1701, 1705, 1709, 1713, 1697, 1717, 1721, 1725, 1729, 1734, 1738, 1743, 1747, 1751, 727, 793, 711, 1080, 517, 446]) rfl (by decide +kernel)
def wMi (k : Nat) : Cond := .initialized (gC (gOwn k))
set_option maxRecDepth 1000000 in
theorem gMi_w : ∀ k ∈ gPl, wMi k ∈ gAll := pos_ok (ps := [6, 6, 6, 6, 6, 6, 6, 6, 6, 6, 6, 6, 6, 9, 9, 9, 9, 9, 9, 9, 9, 9, 9, 9, 8, 8, 8, 8, 8, 8, 8, 8, 8, 7, 7, 7, 7, 7, 7, 7, 7, 7, 7, 7, 7, 7, 7, 7, 10, 10, 10, 10, 10, 10, 5, 5, 5, 5, 5, 5, 5, 5, 5, 5, 5, 3, 3, 3, 3, 3, 3, 3, 3, 3, 3, 3, 3, 3, 3, 3, 3, 3, 3, 3, 3, 3, 3, 2, 2, 2, 2, 2, 2, 2, 4, 4, 4, 4, 4, 4, 4, 4, 4, 4, 4, 4, 4, 4, 4, 4, 4, 4, 11, 11, 11, 11, 11, 11, 11, 11, 11, 11, 11, 12, 12, 12, 12, 12, 12, 12, 12, 12, 12, 12, 12, 12, 12, 1, 1, 1, 1, 1, 1, 1, 1, 1, 1, 1, 1, 1, 1, 1, 1, 1, 1, 1, 1, 1, 1, 1, 1, 1, 1, 1, 1, 1, 1, 1, 1, 1, 1, 1, 1, 1, 1, 1, 1, 1, 1, 13, 13, 13, 13, 13, 13, 13, 13, 13, 13, 13, 13, 13, 13, 13, 13, 13, 13, 13, 13, 13, 13, 13, 13, 13, 13, 13, 13, 13, 13, 13, 13, 13, 13, 13, 13, 13, 13, 13, 13, 13, 13, 13, 13, 13, 13, 13, 13, 13, 13, 13, 13, 13, 13, 13, 13, 13, 13, 13, 13, 13, 13, 13, 13, 13, 13, 13, 13, 13, 13, 13, 13, 13, 13, 13, 13, 13, 13, 13, 13, 13, 13, 13, 13, 13, 13, 13, 13, 13, 13, 13, 13, 20, 21, 19, 14, 14, 14]) rfl (by decide +kernel)
def gPi : List Nat := gPl.filter (fun k => gSt k != 1)
def gPs : List Nat := gPl.filter (fun k => gSt k == 1)
def gPv : List Nat := gPl.filter (fun k => gSt k == 0)
def wIm (k : Nat) : Cond := .instanceMethod (gY k)
set_option maxRecDepth 1000000 in
theorem gIm_w : ∀ k ∈ gPi, wIm k ∈ gAll := pos_ok (ps := [120, 535, 568, 563, 560, 555, 613, 634, 602, 638, 606, 621, 579, 229, 865, 875, 880, 885, 889, 893, 897, 908, 904, 207, 815, 820, 824, 831, 838, 842, 852, 185, 721, 731, 756, 739, 744, 749, 753, 764, 772, 777, 784, 789, 802, 807, 235, 869, 911, 916, 1182, 1186, 92, 441, 644, 519, 473, 453, 448, 463, 41, 511, 135, 131, 126, 507, 617, 625, 631, 597, 588, 592, 706, 698, 1164, 1159, 1171, 1075, 1197, 34, 672, 502, 664, 660, 494, 523, 86, 437, 648, 478, 482, 470, 499, 528, 532, 540, 544, 552, 548, 572, 576, 610, 301, 934, 939, 956, 960, 975, 963, 952, 947, 968, 326, 988, 993, 1038, 997, 1013, 1017, 1021, 1028, 1006, 1049, 26, 417, 422, 425, 434, 429, 652, 656, 1086, 668, 678, 1154, 688, 692, 683, 702, 718, 713, 735, 760, 768, 780, 798, 810, 848, 856, 861, 1178, 921, 926, 931, 971, 979, 984, 1034, 1045, 1053, 1058, 1062, 1066, 1071, 1193, 1203, 1386, 1530, 1390, 1395, 1398, 1407, 1661, 1455, 1490, 1486, 1506, 1498, 1415, 1411, 1435, 1430, 1467, 1463, 1482, 1439, 1447, 1425, 1451, 1459, 1475, 1471, 1494, 1402, 1517, 1526, 1534, 1538, 1521, 1541, 1546, 1550, 1510, 1514, 1566, 1561, 1569, 1578, 1573, 1586, 1581, 1589, 1593, 1597, 1604, 1608, 1613, 1617, 1621, 1624, 1633, 1628, 1637, 1649, 1641, 1645, 1652, 1680, 1673, 1665, 1669, 1656, 1688, 1683, 1691, 1700, 1704, 1708, 1712, 1695, 1715, 1720, 1723, 1727, 1732, 1736, 1741, 1745, 1749]) rfl (by decide +kernel)
def wSm (k : Nat) : Cond := .static (gY k)
set_option maxRecDepth 1000000 in
theorem gSm_w : ∀ k ∈ gPs, wSm k ∈ gAll := pos_ok (ps := [900, 834, 456, 459, 466, 583, 1167, 845, 486, 489, 943, 1042, 1024, 1002, 1478, 1558, 1502, 1418, 1421, 1555, 1601, 1676, 726, 792, 710, 1079, 516, 445]) rfl (by decide +kernel)
def wSe (k : Nat) : Cond := .selects (gC (gOwn k)) (gY k) (gY k)
theorem posL_ok {α : Type} {l : List α} {ps : List Nat} {f : α → Cond} (hl : l.length = ps.length) (h : ∀ q ∈ l.zip ps, lw_tbl[q.2]? = some (f q.1) ∧ goodWord (f q.1) = true) : ∀ x ∈ l, f x ∈ gAll := fun x hx => by
  obtain ⟨y, hy⟩ := zip_mem hl hx
  exact List.mem_filter.mpr ⟨List.mem_of_getElem? (h _ hy).1, (h _ hy).2⟩
set_option maxRecDepth 1000000 in
theorem gSe_w : ∀ k ∈ gPv, wSe k ∈ gAll := posL_ok (ps := [649, 17, 677, 16, 669, 727, 748, 20, 752, 21, 735, 693, 979, 39, 40, 41, 42, 43, 44, 46, 45, 929, 33, 34, 35, 36, 37, 966, 835, 845, 870, 853, 27, 28, 29, 878, 886, 30, 898, 31, 916, 32, 983, 1025, 1030, 1296, 1300, 555, 758, 633, 587, 4, 562, 5, 625, 1, 0, 240, 621, 731, 739, 23, 711, 702, 706, 820, 812, 62, 1273, 1285, 1189, 1311, 786, 616, 778, 774, 608, 637, 551, 762, 7, 8, 6, 9, 10, 11, 12, 13, 15, 14, 18, 19, 22, 1048, 1053, 50, 51, 1089, 1077, 49, 1061, 52, 1102, 53, 1152, 54, 56, 57, 58, 59, 55, 1163, 531, 2, 539, 3, 543, 766, 770, 1200, 782, 792, 1268, 24, 25, 797, 816, 26, 827, 849, 874, 882, 894, 912, 924, 962, 970, 38, 1292, 1035, 47, 48, 1085, 1093, 1098, 1148, 1159, 1167, 60, 1176, 1180, 1185, 1307, 1500, 88, 1504, 63, 1512, 64, 102, 73, 81, 80, 84, 83, 66, 65, 69, 68, 76, 75, 79, 70, 71, 67, 72, 74, 78, 77, 82, 1516, 1631, 87, 89, 90, 1635, 1655, 1660, 1664, 85, 86, 91, 1675, 1683, 92, 1687, 93, 1695, 1703, 1707, 1711, 1718, 1722, 94, 95, 96, 1738, 97, 1742, 98, 101, 99, 100, 1766, 106, 105, 103, 104, 1770, 107, 1797, 1805, 108, 109, 110, 111, 1809, 1829, 112, 1837, 1841, 1846, 1850, 1855, 1859, 1863]) rfl (by decide +kernel)
def mOK (k : Nat) : Prop := (gY k).cls = gC (gOwn k) ∧ ((gY k).cls ≠ "java/lang/invoke/MethodHandle" ∧ (gY k).cls ≠ "java/lang/invoke/VarHandle") ∧ (parseMethodDescriptor (gY k).desc).map (fun d => d.parameters.length) = some (gNP k) ∧ gML k ≤ 40 ∧ plainName (gY k).cls = true ∧ (gRc k = 0 → gRt k = none) ∧ (gRc k = 1 → gRt k = some .int) ∧ (gRc k = 2 → gRt k = some .boolean) ∧ (gRc k = 3 → gRt k = some .long) ∧ (gRc k = 4 → ∃ t, gRt k = some t ∧ ((∃ n, t = .object n) ∨ ∃ u, t = .array u)) ∧ (gSt k = 2 → (gY k).name = "<init>" ∧ gRt k = none)
def mOKb (k : Nat) : Bool := decide ((gY k).cls = gC (gOwn k)) && decide ((gY k).cls ≠ "java/lang/invoke/MethodHandle" ∧ (gY k).cls ≠ "java/lang/invoke/VarHandle") && decide ((parseMethodDescriptor (gY k).desc).map (fun d => d.parameters.length) = some (gNP k)) && decide (gML k ≤ 40) && plainName (gY k).cls && (match gRc k with
  | 0 => decide (gRt k = none)
  | 1 => decide (gRt k = some .int)
  | 2 => decide (gRt k = some .boolean)
  | 3 => decide (gRt k = some .long)
  | _ => (match gRt k with
    | some (.object _) => true
    | some (.array _) => true
    | _ => false)) && (gSt k != 2 || (decide ((gY k).name = "<init>") && decide (gRt k = none)))
theorem mOK_of {k : Nat} (h : mOKb k = true) : mOK k := by
  simp only [mOKb, Bool.and_eq_true, decide_eq_true_eq] at h
  obtain ⟨⟨⟨⟨⟨⟨h1, h2⟩, h3⟩, h4⟩, h5⟩, h6⟩, h7⟩ := h
  refine ⟨h1, h2, h3, h4, h5, fun q => ?_, fun q => ?_, fun q => ?_, fun q => ?_, fun q => ?_, fun q => ?_⟩
  · rw [q] at h6
    exact of_decide_eq_true h6
  · rw [q] at h6
    exact of_decide_eq_true h6
  · rw [q] at h6
    exact of_decide_eq_true h6
  · rw [q] at h6
    exact of_decide_eq_true h6
  · rw [q] at h6
    dsimp only at h6
    split at h6
    · rename_i n hn
      exact ⟨_, hn, Or.inl ⟨_, rfl⟩⟩
    · rename_i n hn
      exact ⟨_, hn, Or.inr ⟨_, rfl⟩⟩
    · cases h6
  · rw [q] at h7
    simpa using h7
set_option maxRecDepth 1000000 in
theorem mOK_l : ∀ k ∈ gPl, mOKb k = true := by decide +kernel
/-- a final field is put in its own constructors alone -/
def kFin (k : Nat) : Bool := (gRes k).all (fun q => match q with
  | .putfield c => !((gTX (c / 1000) (c / 10 % 100)).2.2.2) || (gSt k == 2 && gOwn k == c / 1000)
  | _ => true)
set_option maxRecDepth 1000000 in
theorem kFin_l : ∀ k ∈ List.range 283, kFin k = true := by decide +kernel
/-- which calls are of which style -/
def kSty (k : Nat) : Bool := (gRes k).all (fun q => match q with
  | .invokevirtual y => gSt y == 0
  | .invokestatic y => gSt y == 1
  | .invokespecial y => gSt y == 2
  | _ => true)
set_option maxRecDepth 1000000 in
theorem kSty_l : ∀ k ∈ List.range 283, kSty k = true := by decide +kernel
/-- how long an instruction is (0: as it is told) -/
def ilen : Instr → Nat
  | .bipush _ | .iload _ | .lload _ | .aload _ | .istore _ | .lstore _ | .astore _ | .ldc _ | .newarray _ => 2
  | .sipush _ | .ldc_w _ | .ldc2_w _ | .goto _ | .if_icmp _ _ | .ifCond _ _ | .iinc _ _ | .getfield _ | .putfield _ | .invokevirtual _ | .invokespecial _ | .invokestatic _ | .new _ | .anewarray _ => 3
  | .tableswitch _ _ _ _ => 0
  | _ => 1
def kLn (k : Nat) : Bool := (gTab k).all (fun q => ilen q.2.1 == q.2.2 || ilen q.2.1 == 0)
set_option maxRecDepth 1000000 in
theorem kLn_l : ∀ k ∈ List.range 283, kLn k = true := by decide +kernel
theorem len_of {b N : Nat} (h : N = b ∨ N = 0) (hN : N ≠ 0) : b = N := by
  rcases h with h | h
  · exact h.symm
  · exact absurd h hN
