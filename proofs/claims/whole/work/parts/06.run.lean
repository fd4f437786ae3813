/-! ===== runs ===== -/
def i_dfl (a : Nat) : List Value := match a with
  | 0 => [.null, .null, .null]
  | 1 => [.null, .null]
  | 2 => [.null, .null, .null, .null, .null, .null, .int 0]
  | 3 => [.int 0, .int 0, .int 0, .int 0, .null, .null, .null, .null]
  | 4 => [.null, .null, .null, .null, .null, .null]
  | 5 => [.int 0, .int 0, .int 0, .int 0, .int 0, .null, .null, .null, .null, .null]
  | 6 => [.null, .null, .null, .null]
  | 7 => [.null, .null, .null, .null, .null, .int 0, .int 0, .int 0]
  | 8 => [.null, .int 0, .int 0, .int 0]
  | 9 => [.null, .null, .null, .int 0, .int 0, .null, .null, .int 0, .int 0, .int 0]
  | 10 => [.null, .null, .null, .null, .null, .null, .null, .null, .null, .null, .int 0]
  | _ => [.int 0, .null, .null, .null, .null, .null, .null, .null, .null, .null, .null, .null, .null, .null, .null, .null, .null, .null, .null, .int 0, .int 0, .int 0, .int 0, .int 0, .int 0, .int 0, .int 0, .int 0, .int 0, .null, .null, .null, .null, .null, .null, .null, .null, .null, .null, .null, .null, .int 0, .int 0, .int 0, .null, .null, .null, .null, .null, .null, .null, .int 0, .int 0]
/-- a step that makes cells: where it goes on, how many cells, how many slots -/
def i_nw (q : iI) (pc : Nat) (loc st : List Value) (h : iH) : Option (i_cfg × Nat × Nat) := match q with
  | (ins, _, a, _, _, _) => match ins with
    | .new _ => if h.length < i_SB then some ((pc + 3, loc, .ref h.length :: st, h ++ [.inr (a, i_dfl a)]), 1, (i_dfl a).length) else none
    | .newarray t => match st with
      | .int n :: r => if h.length < i_SB ∧ ¬ n < 0 ∧ n.toNatClampNeg ≤ 60000 then match t with
          | .int => some ((pc + 2, loc, .ref h.length :: r, h ++ [.inl (.int, n.toNatClampNeg, .inl (fun _ => 0))]), 1, n.toNatClampNeg)
          | .byte => some ((pc + 2, loc, .ref h.length :: r, h ++ [.inl (.byte, n.toNatClampNeg, .inl (fun _ => 0))]), 1, n.toNatClampNeg)
          | .boolean => some ((pc + 2, loc, .ref h.length :: r, h ++ [.inl (.boolean, n.toNatClampNeg, .inl (fun _ => 0))]), 1, n.toNatClampNeg)
          | .long => some ((pc + 2, loc, .ref h.length :: r, h ++ [.inl (.long, n.toNatClampNeg, .inr (.inl (fun _ => 0)))]), 1, n.toNatClampNeg)
          | _ => none
        else none
      | _ => none
    | .anewarray _ => match st with
      | .int n :: r => if h.length < i_SB ∧ ¬ n < 0 ∧ n.toNatClampNeg ≤ 60000 then match a with
          | 3 => some ((pc + 3, loc, .ref h.length :: r, h ++ [.inl (.object RX4, n.toNatClampNeg, .inr (.inr (.inr (.inr (fun _ => none)))))]), 1, n.toNatClampNeg)
          | 6 => some ((pc + 3, loc, .ref h.length :: r, h ++ [.inl (.object RX7, n.toNatClampNeg, .inr (.inr (.inr (.inr (fun _ => none)))))]), 1, n.toNatClampNeg)
          | 9 => some ((pc + 3, loc, .ref h.length :: r, h ++ [.inl (.object RX10, n.toNatClampNeg, .inr (.inr (.inr (.inr (fun _ => none)))))]), 1, n.toNatClampNeg)
          | _ => none
        else none
      | _ => none
    | .multianewarray _ _ => match st with
      | .int k :: .int n :: r => if h.length + 1 + n.toNatClampNeg ≤ i_SB ∧ ¬ n < 0 ∧ ¬ k < 0 ∧ n.toNatClampNeg ≤ 60000 ∧ k.toNatClampNeg ≤ 60000 then
          some ((pc + 4, loc, .ref h.length :: r, h ++ [.inl (.array .int, n.toNatClampNeg, .inr (.inr (.inr (.inr (fun i => if i < n.toNatClampNeg then some (h.length + 1 + i) else none)))))] ++ List.replicate n.toNatClampNeg (.inl (.int, k.toNatClampNeg, .inl (fun _ => 0)))), 1 + n.toNatClampNeg, n.toNatClampNeg + n.toNatClampNeg * k.toNatClampNeg)
        else none
      | _ => none
    | .checkcast _ => match st with
      | .ref i :: r => match h[i]? with
        | some (.inl (.int, _)) => some ((pc + 3, loc, .ref i :: r, h), 0, 0)
        | _ => none
      | _ => none
    | .invokevirtual _ => match a with
      | 1006 => match st with
        | .ref i :: r => match h[i]? with
          | some (.inl (.int, n, .inl f)) => if h.length < i_SB ∧ n ≤ 60000 ∧ (r.map fun v => v.category).sum ≤ 8 then some ((pc + 3, loc, .ref h.length :: r, h ++ [.inl (.int, n, .inl f)]), 1, n) else none
          | _ => none
        | _ => none
      | _ => none
    | _ => none
def i_ret (M : iM) (q : iI) (st : List Value) (h : iH) (v : Option Value) (h' : iH) : Prop := match q.1 with
  | .ireturn => ∃ x ty, st = [.int x] ∧ M.2.2.2.2.1 = some ty ∧ narrow ty (.int x) = .int x ∧ v = some (.int x) ∧ h' = h
  | .lreturn => ∃ x, st = [.long x] ∧ M.2.2.2.2.1 = some .long ∧ v = some (.long x) ∧ h' = h
  | .areturn => ∃ x ty, st = [x] ∧ M.2.2.2.2.1 = some ty ∧ i_isq ty = true ∧ (x = .null ∨ ∃ a, x = .ref a) ∧ v = some x ∧ h' = h
  | .return_ => st = [] ∧ M.2.2.2.2.1 = none ∧ v = none ∧ h' = h
  | _ => False
def i_mc_ (a : Nat) : String := ((i_mT[a]?).map (fun M => M.2.1.cls)).getD ""
def i_inv (q : iI) (As st rest : List Value) (h : iH) : Prop := (rest.map fun v => v.category).sum ≤ 8 ∧ match q with
  | (ins, _, a, b, _, _) => match ins with
    | .invokestatic _ => st = As.reverse ++ rest ∧ As.length = b
    | .invokevirtual _ => ∃ i As' ci fs, As = .ref i :: As' ∧ st = As'.reverse ++ .ref i :: rest ∧ As'.length = b ∧ h[i]? = some (.inr (ci, fs)) ∧ (vwCl[ci]?).map (fun z => z.1) = some (i_mc_ a)
    | .invokespecial _ => ∃ i As', As = .ref i :: As' ∧ st = As'.reverse ++ .ref i :: rest ∧ As'.length = b
    | _ => False
def i_P (C : Nat → List Value → iH → Nat → Nat → Option Value → iH → Prop) (M : iM) (mc ms : Nat) (v : Option Value) (h' : iH) : Nat → Nat → List Value → List Value → iH → Nat → Nat → Prop
  | 0, _, _, _, _, _, _ => False
  | n + 1, pc, loc, st, h, c, s => ∃ q, i_at M.2.2.2.2.2 pc = some q ∧
      ((∃ pc' loc' st' h1, i_s q pc loc st h = some (pc', loc', st', h1) ∧ i_P C M mc ms v h' n pc' loc' st' h1 c s)
      ∨ (∃ pc' loc' st' h1 dc ds, i_nw q pc loc st h = some ((pc', loc', st', h1), dc, ds) ∧ c + dc ≤ mc ∧ s + ds ≤ ms ∧ i_P C M mc ms v h' n pc' loc' st' h1 (c + dc) (s + ds))
      ∨ (i_ret M q st h v h' ∧ c ≤ mc ∧ s ≤ ms)
      ∨ (∃ As rest r h2 kc ks, i_inv q As st rest h ∧ C q.2.2.1 As h kc ks r h2 ∧ c + kc ≤ mc ∧ s + ks ≤ ms ∧ i_P C M mc ms v h' n (pc + 3) loc (r.toList ++ rest) h2 (c + kc) (s + ks)))
/-- method y, called d deep at most, with these arguments over h: it answers v over h', with at most mc cells of ms slots made -/
def i_X : Nat → Nat → List Value → iH → Nat → Nat → Option Value → iH → Prop
  | 0 => fun _ _ _ _ _ _ _ => False
  | d + 1 => fun y as h mc ms v h' => ∃ M n, i_mT[y]? = some M ∧ (i_sl as).length ≤ M.2.2.2.1 ∧ i_P (i_X d) M mc ms v h' n 0 (i_ent M.2.2.2.1 as) [] h 0 0
/-! the rows against the tables -/
def i_wd (w : Nat) (c : Cond) : Bool := decide (lw_tbl[w]? = some c) && goodWord c
def i_len (i : Instr) : Nat := match i with
  | .bipush _ => 2
  | .sipush _ => 3
  | .ldc _ => 2
  | .ldc_w _ => 3
  | .ldc2_w _ => 3
  | .iload _ => 2
  | .lload _ => 2
  | .aload _ => 2
  | .istore _ => 2
  | .lstore _ => 2
  | .astore _ => 2
  | .iinc _ _ => 3
  | .goto _ => 3
  | .ifCond _ _ => 3
  | .if_icmp _ _ => 3
  | .ifnonnull _ => 3
  | .getfield _ => 3
  | .putfield _ => 3
  | .new _ => 3
  | .newarray _ => 2
  | .anewarray _ => 3
  | .multianewarray _ _ => 4
  | .checkcast _ => 3
  | .invokevirtual _ => 3
  | .invokestatic _ => 3
  | .invokespecial _ => 3
  | _ => 1
def i_isw (i : Instr) : Bool := match i with
  | .tableswitch _ _ _ _ => true
  | .lookupswitch _ _ => true
  | _ => false
def i_nst (k : Nat) : Cond := match k with
  | 0 => .methodLinkNest RX11 9 yX9_init "SpoonCourt"
  | 1 => .methodLinkNest RX11 18 yX6_init "SpoonCourt"
  | 2 => .methodLinkNest RX10 11 yX6_init "SpoonCourt"
  | 3 => .methodLinkNest RX10 20 yX4_init "SpoonCourt"
  | 4 => .methodLinkNest RX5 11 yX4_init "SpoonCourt"
  | _ => .methodLinkNest RX3 11 yX4_init "SpoonCourt"
def i_yn (y : MethodName) (b : Nat) : Bool := decide ((parseMethodDescriptor y.desc).map (fun d => d.parameters.length) = some b)
def i_cln : MethodName := ⟨"[I", "clone", "()Ljava/lang/Object;"⟩
/-- a method's own words: its code, its class, static or not, that it is what is called -/
def i_mW : List (Nat × Nat × Nat × Nat × Nat) := [(265, 96, 264, 0, 0), (800, 96, 798, 799, 0), (796, 96, 794, 795, 0), (808, 96, 807, 19, 0), (825, 96, 824, 20, 0), (219, 94, 218, 0, 0), (507, 94, 505, 506, 0), (522, 94, 521, 0, 0), (595, 94, 594, 3, 0), (603, 94, 602, 4, 0), (612, 94, 611, 5, 0), (616, 94, 615, 6, 0), (620, 94, 619, 7, 0), (624, 94, 623, 8, 0), (957, 111, 956, 0, 1), (965, 111, 964, 0, 1), (969, 111, 968, 0, 1), (976, 111, 975, 0, 1), (423, 100, 422, 0, 0), (1016, 100, 1014, 1015, 0), (1020, 100, 1019, 27, 0), (1026, 100, 1025, 28, 0), (1030, 100, 1028, 1029, 0), (1038, 100, 1036, 1037, 0), (1042, 100, 1041, 29, 0), (290, 98, 289, 0, 0), (640, 98, 638, 639, 0), (792, 98, 790, 791, 0), (841, 98, 839, 840, 0), (870, 98, 868, 869, 0), (764, 98, 762, 763, 0), (815, 98, 813, 814, 0), (396, 99, 395, 0, 0), (890, 99, 889, 22, 0), (895, 99, 894, 23, 0), (886, 99, 884, 885, 0), (905, 99, 903, 904, 0), (913, 99, 911, 912, 0), (923, 99, 921, 922, 0), (928, 99, 927, 24, 0), (937, 99, 935, 936, 0), (950, 99, 948, 949, 0), (946, 99, 944, 945, 0), (984, 99, 982, 983, 0), (988, 99, 986, 987, 0), (992, 99, 991, 25, 0), (1000, 99, 998, 999, 0), (1004, 99, 1003, 26, 0), (1056, 99, 1054, 1055, 0), (1059, 99, 1058, 0, 1), (151, 93, 150, 0, 0), (515, 93, 513, 514, 0), (633, 93, 631, 632, 0), (760, 93, 758, 759, 0), (776, 93, 774, 775, 0), (804, 93, 802, 803, 0), (780, 93, 778, 779, 0), (734, 108, 733, 0, 0), (830, 108, 828, 829, 0), (834, 108, 833, 21, 0), (837, 108, 836, 0, 1), (232, 95, 231, 0, 0), (651, 95, 649, 650, 0), (715, 95, 713, 714, 0), (656, 95, 655, 9, 0), (684, 95, 683, 14, 0), (711, 95, 710, 18, 0), (695, 95, 694, 15, 0), (699, 95, 698, 16, 0), (704, 95, 703, 17, 0), (664, 95, 663, 10, 0), (668, 95, 667, 11, 0), (676, 95, 675, 12, 0), (680, 95, 679, 13, 0), (124, 92, 123, 0, 0), (495, 92, 493, 494, 0), (511, 92, 509, 510, 0), (591, 92, 589, 590, 0), (531, 92, 529, 530, 0), (629, 92, 627, 628, 0), (607, 92, 605, 606, 0), (527, 92, 525, 526, 0), (689, 92, 687, 688, 0), (599, 92, 597, 598, 0), (535, 92, 534, 1, 0), (587, 92, 586, 2, 0), (282, 97, 281, 0, 0), (788, 97, 786, 787, 0), (878, 97, 876, 877, 0), (1075, 97, 1073, 1074, 0), (116, 91, 115, 0, 0), (491, 91, 489, 490, 0), (499, 91, 497, 498, 0), (503, 91, 501, 502, 0), (647, 91, 645, 646, 0), (752, 91, 750, 751, 0), (756, 91, 754, 755, 0), (768, 91, 766, 767, 0), (772, 91, 770, 771, 0), (784, 91, 782, 783, 0), (846, 91, 844, 845, 0), (854, 91, 852, 853, 0), (858, 91, 856, 857, 0), (862, 91, 860, 861, 0), (866, 91, 864, 865, 0), (874, 91, 872, 873, 0), (882, 91, 880, 881, 0), (901, 91, 899, 900, 0), (909, 91, 907, 908, 0), (919, 91, 917, 918, 0), (933, 91, 931, 932, 0), (942, 91, 940, 941, 0), (954, 91, 952, 953, 0), (962, 91, 960, 961, 0), (973, 91, 971, 972, 0), (980, 91, 978, 979, 0), (996, 91, 994, 995, 0), (1008, 91, 1006, 1007, 0), (1012, 91, 1010, 1011, 0), (1034, 91, 1032, 1033, 0), (1048, 91, 1046, 1047, 0), (1052, 91, 1050, 1051, 0), (1066, 91, 1064, 1065, 0), (1071, 91, 1069, 1070, 0), (1081, 91, 1079, 1080, 0), (849, 91, 848, 0, 1), (1086, 101, 1085, 0, 0), (1326, 101, 1325, 0, 1), (1499, 101, 1498, 0, 1), (1456, 101, 1455, 0, 1), (1441, 101, 1440, 61, 0), (1429, 101, 1428, 59, 0), (1449, 101, 1448, 62, 0), (1250, 101, 1248, 1249, 0), (1254, 101, 1253, 30, 0), (1258, 101, 1256, 1257, 0), (1373, 101, 1372, 0, 1), (1300, 101, 1299, 37, 0), (1282, 101, 1281, 35, 0), (1278, 101, 1277, 34, 0), (1321, 101, 1320, 42, 0), (1294, 101, 1293, 36, 0), (1389, 101, 1388, 52, 0), (1370, 101, 1369, 51, 0), (1366, 101, 1365, 50, 0), (1317, 101, 1316, 41, 0), (1362, 101, 1361, 49, 0), (1358, 101, 1357, 48, 0), (1354, 101, 1353, 47, 0), (1406, 101, 1405, 56, 0), (1414, 101, 1413, 58, 0), (1402, 101, 1401, 55, 0), (1410, 101, 1409, 57, 0), (1397, 101, 1396, 54, 0), (1393, 101, 1392, 53, 0), (1312, 101, 1311, 40, 0), (1285, 101, 1284, 0, 1), (1330, 101, 1329, 43, 0), (1308, 101, 1307, 39, 0), (1304, 101, 1303, 38, 0), (1274, 101, 1273, 33, 0), (1337, 101, 1336, 0, 1), (1334, 101, 1333, 44, 0), (1270, 101, 1269, 32, 0), (1266, 101, 1265, 31, 0), (1341, 101, 1340, 45, 0), (1262, 101, 1260, 1261, 0), (1349, 101, 1348, 46, 0), (1345, 101, 1343, 1344, 0), (1420, 101, 1418, 1419, 0), (1503, 101, 1502, 72, 0), (1513, 101, 1512, 0, 1), (1510, 101, 1509, 0, 1), (1507, 101, 1506, 73, 0), (1433, 101, 1432, 60, 0), (1425, 101, 1423, 1424, 0), (1437, 101, 1435, 1436, 0), (1453, 101, 1452, 63, 0), (1445, 101, 1443, 1444, 0), (1496, 101, 1495, 71, 0), (1492, 101, 1491, 70, 0), (1488, 101, 1487, 69, 0), (1516, 101, 1515, 0, 1), (1484, 101, 1483, 68, 0), (1560, 101, 1559, 77, 0), (1468, 101, 1467, 65, 0), (1472, 101, 1471, 66, 0), (1464, 101, 1463, 64, 0), (1480, 101, 1479, 67, 0), (1460, 101, 1458, 1459, 0), (1476, 101, 1474, 1475, 0), (1520, 101, 1518, 1519, 0), (1525, 101, 1523, 1524, 0), (1529, 101, 1527, 1528, 0), (1533, 101, 1531, 1532, 0), (1538, 101, 1536, 1537, 0), (1548, 101, 1547, 74, 0), (1564, 101, 1563, 78, 0), (1542, 101, 1540, 1541, 0), (1568, 101, 1566, 1567, 0), (1572, 101, 1570, 1571, 0), (1582, 101, 1581, 79, 0), (1577, 101, 1575, 1576, 0), (1586, 101, 1584, 1585, 0), (1590, 101, 1588, 1589, 0), (1594, 101, 1592, 1593, 0), (1606, 101, 1605, 81, 0), (1602, 101, 1601, 80, 0), (1598, 101, 1596, 1597, 0), (1610, 101, 1608, 1609, 0), (1620, 101, 1619, 82, 0), (1624, 101, 1623, 83, 0), (1615, 101, 1613, 1614, 0), (1632, 101, 1631, 84, 0), (1636, 101, 1635, 85, 0), (1628, 101, 1626, 1627, 0), (1640, 101, 1638, 1639, 0), (1648, 101, 1647, 86, 0), (1644, 101, 1642, 1643, 0), (1656, 101, 1655, 87, 0), (1652, 101, 1650, 1651, 0), (1660, 101, 1658, 1659, 0), (1669, 101, 1668, 88, 0), (1677, 101, 1676, 89, 0), (1664, 101, 1662, 1663, 0), (1681, 101, 1679, 1680, 0), (1556, 101, 1555, 76, 0), (1552, 101, 1551, 75, 0), (1685, 101, 1683, 1684, 0), (1690, 101, 1688, 1689, 0), (818, 110, 817, 0, 1), (518, 102, 517, 0, 1), (720, 102, 719, 0, 1)]
/-- is it static -/
def i_stc (a : Nat) : Bool := match i_mW[a]? with
  | some q => decide (q.2.2.2.2 = 1)
  | none => false
def i_ckb (M : iM) (e : iE) : Bool := match M, e with
  | (own, y, cc, _, _, _), (pc, ins, len, a, b, w, z) => decide (decode cc pc = .ok (ins, len)) && (i_isw ins || decide (len = i_len ins)) && match ins with
    | .getfield i => match vwCl[a]? with
      | some (_, T, N) => decide (b < N) && i_wd w (.fieldLink own i (T b).1 (T b).2.1 (T b).2.2.1)
      | none => false
    | .putfield i => match vwCl[a]? with
      | some (_, T, N) => decide (b < N) && i_wd w (.fieldLink own i (T b).1 (T b).2.1 (T b).2.2.1) && (!(T b).2.2.2 || (decide (y.name = "<init>") && decide ((T b).1 = own)))
      | none => false
    | .new i => match vwCl[a]? with
      | some (C, _, _) => i_wd w (.classLink own i C)
      | none => false
    | .anewarray i => match vwCl[a]? with
      | some (C, _, _) => i_wd w (.classLink own i C)
      | none => false
    | .newarray t => i_wd w (.arrayClass (newarray.typeOf t))
    | .multianewarray i n => i_wd w (.classLink own i "[[I") && decide (n = 2)
    | .checkcast i => i_wd w (.classLink own i "[I")
    | .ldc i => if a = 1 then match i_strs[b]? with
        | some (o, k, _, _) => decide (o = own) && decide (k = i)
        | none => false
      else i_wd w (.constant own i (Int32.ofInt z))
    | .ldc_w i => if a = 1 then match i_strs[b]? with
        | some (o, k, _, _) => decide (o = own) && decide (k = i)
        | none => false
      else i_wd w (.constant own i (Int32.ofInt z))
    | .ldc2_w i => i_wd w (.constantLong own i (Int64.ofInt z))
    | .goto o => decide ((pc : Int) + o = (a : Int))
    | .ifCond _ o => decide ((pc : Int) + o = (a : Int))
    | .if_icmp _ o => decide ((pc : Int) + o = (a : Int))
    | .ifnonnull o => decide ((pc : Int) + o = (a : Int))
    | .invokevirtual i => match a with
      | 1004 => i_wd w (.methodLink own i yJ0_length_8abf5)
      | 1005 => i_wd w (.methodLink own i yJ0_charAt_5068e)
      | 1006 => i_wd w (.methodLink own i i_cln)
      | a => match i_mT[a]? with
        | some M2 => i_wd w (.methodLink own i M2.2.1) && i_yn M2.2.1 b && decide (M2.2.1.name ≠ "<init>") && !(i_stc a)
        | none => false
    | .invokestatic i => match a with
      | 1001 => i_wd w (.methodLink own i Lib.Math.max.name)
      | 1002 => i_wd w (.methodLink own i Lib.Math.min.name)
      | 1003 => i_wd w (.methodLink own i arraycopyName)
      | a => match i_mT[a]? with
        | some M2 => i_wd w (.methodLink own i M2.2.1) && i_yn M2.2.1 b && i_stc a
        | none => false
    | .invokespecial i => match a with
      | 1000 => i_wd w (.methodLink own i objectInit)
      | a => match i_mT[a]? with
        | some M2 => (if z = 1 then decide (w < 6) && decide (i_nst w = .methodLinkNest own i M2.2.1 "SpoonCourt") else i_wd w (.methodLink own i M2.2.1)) && i_yn M2.2.1 b && decide (M2.2.1.name = "<init>") && decide (M2.2.2.2.2.1 = none) && !(i_stc a)
        | none => false
    | _ => true
def i_mok (M : iM) (q : Nat × Nat × Nat × Nat × Nat) : Bool := match M, q with
  | (own, y, cc, ml, rt, _), (wc, wi, wn, wz, st) => decide (y.cls = own) && i_wd wc (.code y cc ml rt) && i_wd wi (.initialized y.cls) && (if st = 1 then i_wd wn (.static y) else i_wd wn (.instanceMethod y) && (decide (y.name = "<init>") || i_wd wz (.selects y.cls y y))) && plainName y.cls && decide (y.cls ≠ "java/lang/invoke/MethodHandle") && decide (y.cls ≠ "java/lang/invoke/VarHandle") && decide (ml + 19 ≤ 60)
