/-! CELLS: fields, rows, what is outside -/
theorem sm_cl {c : Nat} (h : c < 11) : vwCl[c]? = some (sm_RC c, sm_TC c, sm_nC c) := by
  match c, h with
  | 0, _ => rfl
  | 1, _ => rfl
  | 2, _ => rfl
  | 3, _ => rfl
  | 4, _ => rfl
  | 5, _ => rfl
  | 6, _ => rfl
  | 7, _ => rfl
  | 8, _ => rfl
  | 9, _ => rfl
  | 10, _ => rfl
  | n + 11, h => exact absurd h (by omega)
theorem sm_tyok {c : Nat} (h : c < 11) : ∀ k, k < sm_nC c → parseFieldDescriptor (sm_TC c k).2.2.1 = some (sm_ty c k) := by
  match c, h with
  | 0, _ => exact tyX0_ok
  | 1, _ => exact tyX1_ok
  | 2, _ => exact tyX2_ok
  | 3, _ => exact tyX3_ok
  | 4, _ => exact tyX4_ok
  | 5, _ => exact tyX5_ok
  | 6, _ => exact tyX6_ok
  | 7, _ => exact tyX7_ok
  | 8, _ => exact tyX8_ok
  | 9, _ => exact tyX9_ok
  | 10, _ => exact tyX10_ok
  | n + 11, h => exact absurd h (by omega)
theorem sm_nm {c : Nat} (h : c < 11) : ∀ a, a < sm_nC c → ∀ b, b < sm_nC c → a ≠ b → (sm_TC c a).2.1 ≠ (sm_TC c b).2.1 := by
  match c, h with
  | 0, _ => exact nmX0
  | 1, _ => exact nmX1
  | 2, _ => exact nmX2
  | 3, _ => exact nmX3
  | 4, _ => exact nmX4
  | 5, _ => exact nmX5
  | 6, _ => exact nmX6
  | 7, _ => exact nmX7
  | 8, _ => exact nmX8
  | 9, _ => exact nmX9
  | 10, _ => exact nmX10
  | n + 11, h => exact absurd h (by omega)
theorem sm_sub (ws : List Cond) (ps : List Nat) (hp : ws = ps.filterMap (fun i => lw_tbl[i]?)) (h : ws.all goodWord = true) : ∀ w ∈ ws, w ∈ sm_Tg := by
  intro w hw
  have h1 := List.all_eq_true.mp h w hw
  rw [hp] at hw
  obtain ⟨i, -, hi⟩ := List.mem_filterMap.mp hw
  exact List.mem_filter.mpr ⟨List.mem_of_getElem? hi, h1⟩
set_option maxRecDepth 100000 in
theorem sm_lay0 : ∀ w ∈ u_ws RX0 TX0 4, w ∈ sm_Tg := sm_sub _ [514, 516, 518, 520] (by decide +kernel) (by decide +kernel)
set_option maxRecDepth 100000 in
theorem sm_lay1 : ∀ w ∈ u_ws RX1 TX1 3, w ∈ sm_Tg := sm_sub _ [253, 255, 257] (by decide +kernel) (by decide +kernel)
set_option maxRecDepth 100000 in
theorem sm_lay2 : ∀ w ∈ u_ws RX2 TX2 2, w ∈ sm_Tg := sm_sub _ [284, 286] (by decide +kernel) (by decide +kernel)
set_option maxRecDepth 100000 in
theorem sm_lay3 : ∀ w ∈ u_ws RX3 TX3 14, w ∈ sm_Tg := sm_sub _ [474, 476, 478, 480, 482, 484, 486, 488, 490, 492, 494, 496, 498, 500] (by decide +kernel) (by decide +kernel)
set_option maxRecDepth 100000 in
theorem sm_lay4 : ∀ w ∈ u_ws RX4 TX4 20, w ∈ sm_Tg := sm_sub _ [360, 362, 364, 366, 368, 370, 372, 374, 376, 378, 380, 382, 384, 386, 388, 390, 392, 394, 396, 398] (by decide +kernel) (by decide +kernel)
set_option maxRecDepth 100000 in
theorem sm_lay5 : ∀ w ∈ u_ws RX5 TX5 7, w ∈ sm_Tg := sm_sub _ [223, 225, 227, 229, 231, 233, 235] (by decide +kernel) (by decide +kernel)
set_option maxRecDepth 100000 in
theorem sm_lay6 : ∀ w ∈ u_ws RX6 TX6 4, w ∈ sm_Tg := sm_sub _ [421, 423, 425, 427] (by decide +kernel) (by decide +kernel)
set_option maxRecDepth 100000 in
theorem sm_lay7 : ∀ w ∈ u_ws RX7 TX7 2, w ∈ sm_Tg := sm_sub _ [195, 197] (by decide +kernel) (by decide +kernel)
set_option maxRecDepth 100000 in
theorem sm_lay8 : ∀ w ∈ u_ws RX8 TX8 2, w ∈ sm_Tg := sm_sub _ [262, 264] (by decide +kernel) (by decide +kernel)
set_option maxRecDepth 100000 in
theorem sm_lay9 : ∀ w ∈ u_ws RX9 TX9 20, w ∈ sm_Tg := sm_sub _ [543, 545, 547, 549, 551, 553, 555, 557, 559, 561, 563, 565, 567, 569, 571, 573, 575, 577, 579, 581] (by decide +kernel) (by decide +kernel)
set_option maxRecDepth 100000 in
theorem sm_lay10 : ∀ w ∈ u_ws RX10 TX10 122, w ∈ sm_Tg := sm_sub _ [1433, 1435, 1437, 1439, 1441, 1443, 1445, 1447, 1449, 1451, 1453, 1455, 1457, 1459, 1461, 1463, 1465, 1467, 1469, 1471, 1473, 1475, 1477, 1479, 1481, 1483, 1485, 1487, 1489, 1491, 1493, 1495, 1497, 1499, 1501, 1503, 1505, 1507, 1509, 1511, 1513, 1515, 1517, 1519, 1521, 1523, 1525, 1527, 1529, 1531, 1533, 1535, 1537, 1539, 1541, 1543, 1545, 1547, 1549, 1551, 1553, 1555, 1557, 1559, 1561, 1563, 1565, 1567, 1569, 1571, 1573, 1575, 1577, 1579, 1581, 1583, 1585, 1587, 1589, 1591, 1593, 1595, 1597, 1599, 1601, 1603, 1605, 1607, 1609, 1611, 1613, 1615, 1617, 1619, 1621, 1623, 1625, 1627, 1629, 1631, 1633, 1635, 1637, 1639, 1641, 1643, 1645, 1647, 1649, 1651, 1653, 1655, 1657, 1659, 1661, 1663, 1665, 1667, 1669, 1671, 1673, 1675] (by decide +kernel) (by decide +kernel)
theorem sm_lay {c : Nat} (h : c < 11) : ∀ w ∈ u_ws (sm_RC c) (sm_TC c) (sm_nC c), w ∈ sm_Tg := by
  match c, h with
  | 0, _ => exact sm_lay0
  | 1, _ => exact sm_lay1
  | 2, _ => exact sm_lay2
  | 3, _ => exact sm_lay3
  | 4, _ => exact sm_lay4
  | 5, _ => exact sm_lay5
  | 6, _ => exact sm_lay6
  | 7, _ => exact sm_lay7
  | 8, _ => exact sm_lay8
  | 9, _ => exact sm_lay9
  | 10, _ => exact sm_lay10
  | n + 11, h => exact absurd h (by omega)
