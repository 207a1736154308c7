/-! the law's body, in tables -/
theorem dL_law_1488 : decode cL_law 1488 = .ok (.aload_n 1, 1) := by decide +kernel
theorem dL_law_1489 : decode cL_law 1489 = .ok (.aload_n 0, 1) := by decide +kernel
theorem dL_law_1490 : decode cL_law 1490 = .ok (.iload 5, 2) := by decide +kernel
theorem dL_law_1492 : decode cL_law 1492 = .ok (.iconst 1, 1) := by decide +kernel
theorem dL_law_1493 : decode cL_law 1493 = .ok (.iadd, 1) := by decide +kernel
theorem dL_law_1494 : decode cL_law 1494 = .ok (.iaload, 1) := by decide +kernel
theorem dL_law_1495 : decode cL_law 1495 = .ok (.aload_n 3, 1) := by decide +kernel
theorem dL_law_1496 : decode cL_law 1496 = .ok (.invokestatic 169, 3) := by decide +kernel
theorem dL_law_1499 : decode cL_law 1499 = .ok (.istore 6, 2) := by decide +kernel
theorem dL_law_1501 : decode cL_law 1501 = .ok (.aload_n 2, 1) := by decide +kernel
theorem dL_law_1502 : decode cL_law 1502 = .ok (.aload_n 0, 1) := by decide +kernel
theorem dL_law_1503 : decode cL_law 1503 = .ok (.iload 5, 2) := by decide +kernel
theorem dL_law_1505 : decode cL_law 1505 = .ok (.iconst 1, 1) := by decide +kernel
theorem dL_law_1506 : decode cL_law 1506 = .ok (.iadd, 1) := by decide +kernel
theorem dL_law_1507 : decode cL_law 1507 = .ok (.iaload, 1) := by decide +kernel
theorem dL_law_1508 : decode cL_law 1508 = .ok (.invokevirtual 171, 3) := by decide +kernel
theorem dL_law_1511 : decode cL_law 1511 = .ok (.istore 7, 2) := by decide +kernel
theorem dL_law_1513 : decode cL_law 1513 = .ok (.aload_n 2, 1) := by decide +kernel
theorem dL_law_1514 : decode cL_law 1514 = .ok (.invokevirtual 105, 3) := by decide +kernel
theorem dL_law_1517 : decode cL_law 1517 = .ok (.iload 6, 2) := by decide +kernel
theorem dL_law_1519 : decode cL_law 1519 = .ok (.if_icmp .eq 5, 3) := by decide +kernel
theorem dL_law_1522 : decode cL_law 1522 = .ok (.iconst 0, 1) := by decide +kernel
theorem dL_law_1523 : decode cL_law 1523 = .ok (.ireturn, 1) := by decide +kernel
theorem dL_law_1524 : decode cL_law 1524 = .ok (.iload 6, 2) := by decide +kernel
theorem dL_law_1526 : decode cL_law 1526 = .ok (.ifCond .ne 15, 3) := by decide +kernel
theorem dL_law_1529 : decode cL_law 1529 = .ok (.aload_n 3, 1) := by decide +kernel
theorem dL_law_1530 : decode cL_law 1530 = .ok (.iconst 0, 1) := by decide +kernel
theorem dL_law_1531 : decode cL_law 1531 = .ok (.laload, 1) := by decide +kernel
theorem dL_law_1532 : decode cL_law 1532 = .ok (.iload 7, 2) := by decide +kernel
theorem dL_law_1534 : decode cL_law 1534 = .ok (.i2l, 1) := by decide +kernel
theorem dL_law_1535 : decode cL_law 1535 = .ok (.lcmp, 1) := by decide +kernel
theorem dL_law_1536 : decode cL_law 1536 = .ok (.ifCond .eq 5, 3) := by decide +kernel
theorem dL_law_1539 : decode cL_law 1539 = .ok (.iconst 0, 1) := by decide +kernel
theorem dL_law_1540 : decode cL_law 1540 = .ok (.ireturn, 1) := by decide +kernel
theorem dL_law_1541 : decode cL_law 1541 = .ok (.goto 390, 3) := by decide +kernel
def tL_law_c18 : Tb := [(1488, .inl (f_aload 1, 1489)), (1489, .inl (f_aload 0, 1490)), (1490, .inl (f_iload 5, 1492)), (1492, .inl (f_ci (1), 1493)), (1493, .inl (f_iadd, 1494)), (1494, .inr (.inr (.inl (0, 1495, 0, m0)))), (1495, .inl (f_aload 3, 1496)), (1499, .inl (f_istore 10 6, 1501)), (1501, .inl (f_aload 2, 1502)), (1502, .inl (f_aload 0, 1503)), (1503, .inl (f_iload 5, 1505)), (1505, .inl (f_ci (1), 1506)), (1506, .inl (f_iadd, 1507)), (1507, .inr (.inr (.inl (0, 1508, 0, m0)))), (1508, .inr (.inr (.inl (13, 1511, 2, mX7_autoPickup)))), (1511, .inl (f_istore 10 7, 1513)), (1513, .inl (f_aload 2, 1514)), (1514, .inr (.inr (.inl (13, 1517, 1, mX7_thrown)))), (1517, .inl (f_iload 6, 1519)), (1519, .inr (.inl (b_icmp_eq, 1524, 1522))), (1522, .inl (f_ci (0), 1523)), (1523, .inr (.inr (.inl (15, 1524, 0, m0)))), (1524, .inl (f_iload 6, 1526)), (1526, .inr (.inl (b_if_eq, 1529, 1541))), (1529, .inl (f_aload 3, 1530)), (1530, .inl (f_ci (0), 1531)), (1531, .inr (.inr (.inl (2, 1532, 0, m0)))), (1532, .inl (f_iload 7, 1534)), (1534, .inl (f_i2l, 1535)), (1535, .inl (f_lcmp, 1536)), (1536, .inr (.inl (b_if_eq, 1541, 1539))), (1539, .inl (f_ci (0), 1540)), (1540, .inr (.inr (.inl (15, 1541, 0, m0)))), (1541, .inl (f_id, 1931))]
set_option maxRecDepth 10000 in
theorem kL_law_c18 {X : Ctx} (h : sCx X mL_law) : tab X mL_law tL_law_c18 :=
  tab_cons (eS (st_aloadn h rfl dL_law_1488)) (
  tab_cons (eS (st_aloadn h rfl dL_law_1489)) (
  tab_cons (eS (st_iload h dL_law_1490)) (
  tab_cons (eS (st_iconst h (by decide +kernel) dL_law_1492)) (
  tab_cons (eS (st_iadd h dL_law_1493)) (
  tab_cons (eO (so_iaload h dL_law_1494)) (
  tab_cons (eS (st_aloadn h rfl dL_law_1495)) (
  tab_cons (eS (st_istore h dL_law_1499)) (
  tab_cons (eS (st_aloadn h rfl dL_law_1501)) (
  tab_cons (eS (st_aloadn h rfl dL_law_1502)) (
  tab_cons (eS (st_iload h dL_law_1503)) (
  tab_cons (eS (st_iconst h (by decide +kernel) dL_law_1505)) (
  tab_cons (eS (st_iadd h dL_law_1506)) (
  tab_cons (eO (so_iaload h dL_law_1507)) (
  tab_cons (eO (so_callV h gl_174 gl_175 gl_176 gw_295 gl_177 ⟨by decide +kernel, by decide +kernel, by decide +kernel, by decide +kernel⟩ ⟨by decide +kernel, by decide +kernel⟩ dL_law_1508)) (
  tab_cons (eS (st_istore h dL_law_1511)) (
  tab_cons (eS (st_aloadn h rfl dL_law_1513)) (
  tab_cons (eO (so_callV h gl_98 gl_99 gl_100 gw_295 gl_101 ⟨by decide +kernel, by decide +kernel, by decide +kernel, by decide +kernel⟩ ⟨by decide +kernel, by decide +kernel⟩ dL_law_1514)) (
  tab_cons (eS (st_iload h dL_law_1517)) (
  tab_cons (eB (sb_icmp_eq h dL_law_1519 (by decide))) (
  tab_cons (eS (st_iconst h (by decide +kernel) dL_law_1522)) (
  tab_cons (eO (so_ireturn h dL_law_1523)) (
  tab_cons (eS (st_iload h dL_law_1524)) (
  tab_cons (eB (sb_if_ne h dL_law_1526 (by decide))) (
  tab_cons (eS (st_aloadn h rfl dL_law_1529)) (
  tab_cons (eS (st_iconst h (by decide +kernel) dL_law_1530)) (
  tab_cons (eO (so_laload h dL_law_1531)) (
  tab_cons (eS (st_iload h dL_law_1532)) (
  tab_cons (eS (st_i2l h dL_law_1534)) (
  tab_cons (eS (st_lcmp h dL_law_1535)) (
  tab_cons (eB (sb_if_eq h dL_law_1536 (by decide))) (
  tab_cons (eS (st_iconst h (by decide +kernel) dL_law_1539)) (
  tab_cons (eO (so_ireturn h dL_law_1540)) (
  tab_cons (eS (st_goto h dL_law_1541 (by decide))) (
  tab_nil))))))))))))))))))))))))))))))))))
theorem dL_law_1544 : decode cL_law 1544 = .ok (.aload_n 1, 1) := by decide +kernel
theorem dL_law_1545 : decode cL_law 1545 = .ok (.invokevirtual 172, 3) := by decide +kernel
theorem dL_law_1548 : decode cL_law 1548 = .ok (.aload_n 2, 1) := by decide +kernel
theorem dL_law_1549 : decode cL_law 1549 = .ok (.invokevirtual 175, 3) := by decide +kernel
theorem dL_law_1552 : decode cL_law 1552 = .ok (.if_icmp .eq 379, 3) := by decide +kernel
theorem dL_law_1555 : decode cL_law 1555 = .ok (.iconst 0, 1) := by decide +kernel
theorem dL_law_1556 : decode cL_law 1556 = .ok (.ireturn, 1) := by decide +kernel
def tL_law_c19 : Tb := [(1544, .inl (f_aload 1, 1545)), (1545, .inr (.inr (.inl (13, 1548, 1, mX6_autoGrade)))), (1548, .inl (f_aload 2, 1549)), (1549, .inr (.inr (.inl (13, 1552, 1, mX7_autoGrade)))), (1552, .inr (.inl (b_icmp_eq, 1931, 1555))), (1555, .inl (f_ci (0), 1556)), (1556, .inr (.inr (.inl (15, 1557, 0, m0))))]
set_option maxRecDepth 10000 in
theorem kL_law_c19 {X : Ctx} (h : sCx X mL_law) : tab X mL_law tL_law_c19 :=
  tab_cons (eS (st_aloadn h rfl dL_law_1544)) (
  tab_cons (eO (so_callV h gl_178 gl_179 gl_180 gw_27 gl_181 ⟨by decide +kernel, by decide +kernel, by decide +kernel, by decide +kernel⟩ ⟨by decide +kernel, by decide +kernel⟩ dL_law_1545)) (
  tab_cons (eS (st_aloadn h rfl dL_law_1548)) (
  tab_cons (eO (so_callV h gl_182 gl_183 gl_184 gw_295 gl_185 ⟨by decide +kernel, by decide +kernel, by decide +kernel, by decide +kernel⟩ ⟨by decide +kernel, by decide +kernel⟩ dL_law_1549)) (
  tab_cons (eB (sb_icmp_eq h dL_law_1552 (by decide))) (
  tab_cons (eS (st_iconst h (by decide +kernel) dL_law_1555)) (
  tab_cons (eO (so_ireturn h dL_law_1556)) (
  tab_nil)))))))
theorem dL_law_1557 : decode cL_law 1557 = .ok (.aload_n 1, 1) := by decide +kernel
theorem dL_law_1558 : decode cL_law 1558 = .ok (.aload_n 0, 1) := by decide +kernel
theorem dL_law_1559 : decode cL_law 1559 = .ok (.iload 5, 2) := by decide +kernel
theorem dL_law_1561 : decode cL_law 1561 = .ok (.iconst 1, 1) := by decide +kernel
theorem dL_law_1562 : decode cL_law 1562 = .ok (.iadd, 1) := by decide +kernel
theorem dL_law_1563 : decode cL_law 1563 = .ok (.iaload, 1) := by decide +kernel
theorem dL_law_1564 : decode cL_law 1564 = .ok (.aload_n 0, 1) := by decide +kernel
theorem dL_law_1565 : decode cL_law 1565 = .ok (.iload 5, 2) := by decide +kernel
theorem dL_law_1567 : decode cL_law 1567 = .ok (.iconst 2, 1) := by decide +kernel
theorem dL_law_1568 : decode cL_law 1568 = .ok (.iadd, 1) := by decide +kernel
theorem dL_law_1569 : decode cL_law 1569 = .ok (.iaload, 1) := by decide +kernel
theorem dL_law_1570 : decode cL_law 1570 = .ok (.aload_n 0, 1) := by decide +kernel
theorem dL_law_1571 : decode cL_law 1571 = .ok (.iload 5, 2) := by decide +kernel
theorem dL_law_1573 : decode cL_law 1573 = .ok (.iconst 3, 1) := by decide +kernel
theorem dL_law_1574 : decode cL_law 1574 = .ok (.iadd, 1) := by decide +kernel
theorem dL_law_1575 : decode cL_law 1575 = .ok (.iaload, 1) := by decide +kernel
theorem dL_law_1576 : decode cL_law 1576 = .ok (.i2d, 1) := by decide +kernel
theorem dL_law_1577 : decode cL_law 1577 = .ok (.ldc2_w 97, 3) := by decide +kernel
theorem dL_law_1580 : decode cL_law 1580 = .ok (.dmul, 1) := by decide +kernel
theorem dL_law_1581 : decode cL_law 1581 = .ok (.aload_n 3, 1) := by decide +kernel
theorem dL_law_1582 : decode cL_law 1582 = .ok (.invokestatic 176, 3) := by decide +kernel
theorem dL_law_1585 : decode cL_law 1585 = .ok (.istore 6, 2) := by decide +kernel
theorem dL_law_1587 : decode cL_law 1587 = .ok (.aload_n 2, 1) := by decide +kernel
theorem dL_law_1588 : decode cL_law 1588 = .ok (.aload_n 0, 1) := by decide +kernel
theorem dL_law_1589 : decode cL_law 1589 = .ok (.iload 5, 2) := by decide +kernel
theorem dL_law_1591 : decode cL_law 1591 = .ok (.iconst 1, 1) := by decide +kernel
theorem dL_law_1592 : decode cL_law 1592 = .ok (.iadd, 1) := by decide +kernel
theorem dL_law_1593 : decode cL_law 1593 = .ok (.iaload, 1) := by decide +kernel
theorem dL_law_1594 : decode cL_law 1594 = .ok (.aload_n 0, 1) := by decide +kernel
theorem dL_law_1595 : decode cL_law 1595 = .ok (.iload 5, 2) := by decide +kernel
theorem dL_law_1597 : decode cL_law 1597 = .ok (.iconst 2, 1) := by decide +kernel
theorem dL_law_1598 : decode cL_law 1598 = .ok (.iadd, 1) := by decide +kernel
theorem dL_law_1599 : decode cL_law 1599 = .ok (.iaload, 1) := by decide +kernel
theorem dL_law_1600 : decode cL_law 1600 = .ok (.aload_n 0, 1) := by decide +kernel
theorem dL_law_1601 : decode cL_law 1601 = .ok (.iload 5, 2) := by decide +kernel
theorem dL_law_1603 : decode cL_law 1603 = .ok (.iconst 3, 1) := by decide +kernel
theorem dL_law_1604 : decode cL_law 1604 = .ok (.iadd, 1) := by decide +kernel
theorem dL_law_1605 : decode cL_law 1605 = .ok (.iaload, 1) := by decide +kernel
theorem dL_law_1606 : decode cL_law 1606 = .ok (.i2d, 1) := by decide +kernel
theorem dL_law_1607 : decode cL_law 1607 = .ok (.ldc2_w 97, 3) := by decide +kernel
theorem dL_law_1610 : decode cL_law 1610 = .ok (.dmul, 1) := by decide +kernel
theorem dL_law_1611 : decode cL_law 1611 = .ok (.invokevirtual 179, 3) := by decide +kernel
theorem dL_law_1614 : decode cL_law 1614 = .ok (.istore 7, 2) := by decide +kernel
theorem dL_law_1616 : decode cL_law 1616 = .ok (.aload_n 2, 1) := by decide +kernel
theorem dL_law_1617 : decode cL_law 1617 = .ok (.invokevirtual 105, 3) := by decide +kernel
theorem dL_law_1620 : decode cL_law 1620 = .ok (.iload 6, 2) := by decide +kernel
theorem dL_law_1622 : decode cL_law 1622 = .ok (.if_icmp .eq 5, 3) := by decide +kernel
theorem dL_law_1625 : decode cL_law 1625 = .ok (.iconst 0, 1) := by decide +kernel
theorem dL_law_1626 : decode cL_law 1626 = .ok (.ireturn, 1) := by decide +kernel
theorem dL_law_1627 : decode cL_law 1627 = .ok (.iload 6, 2) := by decide +kernel
theorem dL_law_1629 : decode cL_law 1629 = .ok (.ifCond .ne 15, 3) := by decide +kernel
theorem dL_law_1632 : decode cL_law 1632 = .ok (.aload_n 3, 1) := by decide +kernel
theorem dL_law_1633 : decode cL_law 1633 = .ok (.iconst 0, 1) := by decide +kernel
theorem dL_law_1634 : decode cL_law 1634 = .ok (.laload, 1) := by decide +kernel
theorem dL_law_1635 : decode cL_law 1635 = .ok (.iload 7, 2) := by decide +kernel
theorem dL_law_1637 : decode cL_law 1637 = .ok (.i2l, 1) := by decide +kernel
theorem dL_law_1638 : decode cL_law 1638 = .ok (.lcmp, 1) := by decide +kernel
theorem dL_law_1639 : decode cL_law 1639 = .ok (.ifCond .eq 5, 3) := by decide +kernel
theorem dL_law_1642 : decode cL_law 1642 = .ok (.iconst 0, 1) := by decide +kernel
theorem dL_law_1643 : decode cL_law 1643 = .ok (.ireturn, 1) := by decide +kernel
theorem dL_law_1644 : decode cL_law 1644 = .ok (.goto 287, 3) := by decide +kernel
def tL_law_c20 : Tb := [(1557, .inl (f_aload 1, 1558)), (1558, .inl (f_aload 0, 1559)), (1559, .inl (f_iload 5, 1561)), (1561, .inl (f_ci (1), 1562)), (1562, .inl (f_iadd, 1563)), (1563, .inr (.inr (.inl (0, 1564, 0, m0)))), (1564, .inl (f_aload 0, 1565)), (1565, .inl (f_iload 5, 1567)), (1567, .inl (f_ci (2), 1568)), (1568, .inl (f_iadd, 1569)), (1569, .inr (.inr (.inl (0, 1570, 0, m0)))), (1570, .inl (f_aload 0, 1571)), (1571, .inl (f_iload 5, 1573)), (1573, .inl (f_ci (3), 1574)), (1574, .inl (f_iadd, 1575)), (1575, .inr (.inr (.inl (0, 1576, 0, m0)))), (1576, .inl (f_i2d, 1577)), (1577, .inl (f_cd 4593671619917905920, 1580)), (1580, .inr (.inr (.inl (9, 1581, 0, m0)))), (1581, .inl (f_aload 3, 1582)), (1585, .inl (f_istore 10 6, 1587)), (1587, .inl (f_aload 2, 1588)), (1588, .inl (f_aload 0, 1589)), (1589, .inl (f_iload 5, 1591)), (1591, .inl (f_ci (1), 1592)), (1592, .inl (f_iadd, 1593)), (1593, .inr (.inr (.inl (0, 1594, 0, m0)))), (1594, .inl (f_aload 0, 1595)), (1595, .inl (f_iload 5, 1597)), (1597, .inl (f_ci (2), 1598)), (1598, .inl (f_iadd, 1599)), (1599, .inr (.inr (.inl (0, 1600, 0, m0)))), (1600, .inl (f_aload 0, 1601)), (1601, .inl (f_iload 5, 1603)), (1603, .inl (f_ci (3), 1604)), (1604, .inl (f_iadd, 1605)), (1605, .inr (.inr (.inl (0, 1606, 0, m0)))), (1606, .inl (f_i2d, 1607)), (1607, .inl (f_cd 4593671619917905920, 1610)), (1610, .inr (.inr (.inl (9, 1611, 0, m0)))), (1611, .inr (.inr (.inl (13, 1614, 4, mX7_simulate)))), (1614, .inl (f_istore 10 7, 1616)), (1616, .inl (f_aload 2, 1617)), (1617, .inr (.inr (.inl (13, 1620, 1, mX7_thrown)))), (1620, .inl (f_iload 6, 1622)), (1622, .inr (.inl (b_icmp_eq, 1627, 1625))), (1625, .inl (f_ci (0), 1626)), (1626, .inr (.inr (.inl (15, 1627, 0, m0)))), (1627, .inl (f_iload 6, 1629)), (1629, .inr (.inl (b_if_eq, 1632, 1644))), (1632, .inl (f_aload 3, 1633)), (1633, .inl (f_ci (0), 1634)), (1634, .inr (.inr (.inl (2, 1635, 0, m0)))), (1635, .inl (f_iload 7, 1637)), (1637, .inl (f_i2l, 1638)), (1638, .inl (f_lcmp, 1639)), (1639, .inr (.inl (b_if_eq, 1644, 1642))), (1642, .inl (f_ci (0), 1643)), (1643, .inr (.inr (.inl (15, 1644, 0, m0)))), (1644, .inl (f_id, 1931))]
set_option maxRecDepth 10000 in
theorem kL_law_c20 {X : Ctx} (h : sCx X mL_law) : tab X mL_law tL_law_c20 :=
  tab_cons (eS (st_aloadn h rfl dL_law_1557)) (
  tab_cons (eS (st_aloadn h rfl dL_law_1558)) (
  tab_cons (eS (st_iload h dL_law_1559)) (
  tab_cons (eS (st_iconst h (by decide +kernel) dL_law_1561)) (
  tab_cons (eS (st_iadd h dL_law_1562)) (
  tab_cons (eO (so_iaload h dL_law_1563)) (
  tab_cons (eS (st_aloadn h rfl dL_law_1564)) (
  tab_cons (eS (st_iload h dL_law_1565)) (
  tab_cons (eS (st_iconst h (by decide +kernel) dL_law_1567)) (
  tab_cons (eS (st_iadd h dL_law_1568)) (
  tab_cons (eO (so_iaload h dL_law_1569)) (
  tab_cons (eS (st_aloadn h rfl dL_law_1570)) (
  tab_cons (eS (st_iload h dL_law_1571)) (
  tab_cons (eS (st_iconst h (by decide +kernel) dL_law_1573)) (
  tab_cons (eS (st_iadd h dL_law_1574)) (
  tab_cons (eO (so_iaload h dL_law_1575)) (
  tab_cons (eS (st_i2d h dL_law_1576)) (
  tab_cons (eS (st_ldc2d h gl_92 dL_law_1577)) (
  tab_cons (eO (so_dmul h dL_law_1580)) (
  tab_cons (eS (st_aloadn h rfl dL_law_1581)) (
  tab_cons (eS (st_istore h dL_law_1585)) (
  tab_cons (eS (st_aloadn h rfl dL_law_1587)) (
  tab_cons (eS (st_aloadn h rfl dL_law_1588)) (
  tab_cons (eS (st_iload h dL_law_1589)) (
  tab_cons (eS (st_iconst h (by decide +kernel) dL_law_1591)) (
  tab_cons (eS (st_iadd h dL_law_1592)) (
  tab_cons (eO (so_iaload h dL_law_1593)) (
  tab_cons (eS (st_aloadn h rfl dL_law_1594)) (
  tab_cons (eS (st_iload h dL_law_1595)) (
  tab_cons (eS (st_iconst h (by decide +kernel) dL_law_1597)) (
  tab_cons (eS (st_iadd h dL_law_1598)) (
  tab_cons (eO (so_iaload h dL_law_1599)) (
  tab_cons (eS (st_aloadn h rfl dL_law_1600)) (
  tab_cons (eS (st_iload h dL_law_1601)) (
  tab_cons (eS (st_iconst h (by decide +kernel) dL_law_1603)) (
  tab_cons (eS (st_iadd h dL_law_1604)) (
  tab_cons (eO (so_iaload h dL_law_1605)) (
  tab_cons (eS (st_i2d h dL_law_1606)) (
  tab_cons (eS (st_ldc2d h gl_92 dL_law_1607)) (
  tab_cons (eO (so_dmul h dL_law_1610)) (
  tab_cons (eO (so_callV h gl_186 gl_187 gl_188 gw_295 gl_189 ⟨by decide +kernel, by decide +kernel, by decide +kernel, by decide +kernel⟩ ⟨by decide +kernel, by decide +kernel⟩ dL_law_1611)) (
  tab_cons (eS (st_istore h dL_law_1614)) (
  tab_cons (eS (st_aloadn h rfl dL_law_1616)) (
  tab_cons (eO (so_callV h gl_98 gl_99 gl_100 gw_295 gl_101 ⟨by decide +kernel, by decide +kernel, by decide +kernel, by decide +kernel⟩ ⟨by decide +kernel, by decide +kernel⟩ dL_law_1617)) (
  tab_cons (eS (st_iload h dL_law_1620)) (
  tab_cons (eB (sb_icmp_eq h dL_law_1622 (by decide))) (
  tab_cons (eS (st_iconst h (by decide +kernel) dL_law_1625)) (
  tab_cons (eO (so_ireturn h dL_law_1626)) (
  tab_cons (eS (st_iload h dL_law_1627)) (
  tab_cons (eB (sb_if_ne h dL_law_1629 (by decide))) (
  tab_cons (eS (st_aloadn h rfl dL_law_1632)) (
  tab_cons (eS (st_iconst h (by decide +kernel) dL_law_1633)) (
  tab_cons (eO (so_laload h dL_law_1634)) (
  tab_cons (eS (st_iload h dL_law_1635)) (
  tab_cons (eS (st_i2l h dL_law_1637)) (
  tab_cons (eS (st_lcmp h dL_law_1638)) (
  tab_cons (eB (sb_if_eq h dL_law_1639 (by decide))) (
  tab_cons (eS (st_iconst h (by decide +kernel) dL_law_1642)) (
  tab_cons (eO (so_ireturn h dL_law_1643)) (
  tab_cons (eS (st_goto h dL_law_1644 (by decide))) (
  tab_nil))))))))))))))))))))))))))))))))))))))))))))))))))))))))))))
theorem dL_law_1647 : decode cL_law 1647 = .ok (.aload_n 1, 1) := by decide +kernel
theorem dL_law_1648 : decode cL_law 1648 = .ok (.invokevirtual 180, 3) := by decide +kernel
theorem dL_law_1651 : decode cL_law 1651 = .ok (.aload_n 2, 1) := by decide +kernel
theorem dL_law_1652 : decode cL_law 1652 = .ok (.invokevirtual 183, 3) := by decide +kernel
theorem dL_law_1655 : decode cL_law 1655 = .ok (.if_icmp .eq 276, 3) := by decide +kernel
theorem dL_law_1658 : decode cL_law 1658 = .ok (.iconst 0, 1) := by decide +kernel
theorem dL_law_1659 : decode cL_law 1659 = .ok (.ireturn, 1) := by decide +kernel
def tL_law_c21 : Tb := [(1647, .inl (f_aload 1, 1648)), (1648, .inr (.inr (.inl (13, 1651, 1, mX6_eventCount)))), (1651, .inl (f_aload 2, 1652)), (1652, .inr (.inr (.inl (13, 1655, 1, mX7_eventCount)))), (1655, .inr (.inl (b_icmp_eq, 1931, 1658))), (1658, .inl (f_ci (0), 1659)), (1659, .inr (.inr (.inl (15, 1660, 0, m0))))]
set_option maxRecDepth 10000 in
theorem kL_law_c21 {X : Ctx} (h : sCx X mL_law) : tab X mL_law tL_law_c21 :=
  tab_cons (eS (st_aloadn h rfl dL_law_1647)) (
  tab_cons (eO (so_callV h gl_190 gl_191 gl_192 gw_27 gl_193 ⟨by decide +kernel, by decide +kernel, by decide +kernel, by decide +kernel⟩ ⟨by decide +kernel, by decide +kernel⟩ dL_law_1648)) (
  tab_cons (eS (st_aloadn h rfl dL_law_1651)) (
  tab_cons (eO (so_callV h gl_194 gl_195 gl_196 gw_295 gl_197 ⟨by decide +kernel, by decide +kernel, by decide +kernel, by decide +kernel⟩ ⟨by decide +kernel, by decide +kernel⟩ dL_law_1652)) (
  tab_cons (eB (sb_icmp_eq h dL_law_1655 (by decide))) (
  tab_cons (eS (st_iconst h (by decide +kernel) dL_law_1658)) (
  tab_cons (eO (so_ireturn h dL_law_1659)) (
  tab_nil)))))))
theorem dL_law_1660 : decode cL_law 1660 = .ok (.aload_n 1, 1) := by decide +kernel
theorem dL_law_1661 : decode cL_law 1661 = .ok (.aload_n 0, 1) := by decide +kernel
theorem dL_law_1662 : decode cL_law 1662 = .ok (.iload 5, 2) := by decide +kernel
theorem dL_law_1664 : decode cL_law 1664 = .ok (.iconst 1, 1) := by decide +kernel
theorem dL_law_1665 : decode cL_law 1665 = .ok (.iadd, 1) := by decide +kernel
theorem dL_law_1666 : decode cL_law 1666 = .ok (.iaload, 1) := by decide +kernel
theorem dL_law_1667 : decode cL_law 1667 = .ok (.aload_n 3, 1) := by decide +kernel
theorem dL_law_1668 : decode cL_law 1668 = .ok (.invokestatic 184, 3) := by decide +kernel
theorem dL_law_1671 : decode cL_law 1671 = .ok (.istore 6, 2) := by decide +kernel
theorem dL_law_1673 : decode cL_law 1673 = .ok (.aload_n 2, 1) := by decide +kernel
theorem dL_law_1674 : decode cL_law 1674 = .ok (.aload_n 0, 1) := by decide +kernel
theorem dL_law_1675 : decode cL_law 1675 = .ok (.iload 5, 2) := by decide +kernel
theorem dL_law_1677 : decode cL_law 1677 = .ok (.iconst 1, 1) := by decide +kernel
theorem dL_law_1678 : decode cL_law 1678 = .ok (.iadd, 1) := by decide +kernel
theorem dL_law_1679 : decode cL_law 1679 = .ok (.iaload, 1) := by decide +kernel
theorem dL_law_1680 : decode cL_law 1680 = .ok (.invokevirtual 186, 3) := by decide +kernel
theorem dL_law_1683 : decode cL_law 1683 = .ok (.istore 7, 2) := by decide +kernel
theorem dL_law_1685 : decode cL_law 1685 = .ok (.aload_n 2, 1) := by decide +kernel
theorem dL_law_1686 : decode cL_law 1686 = .ok (.invokevirtual 105, 3) := by decide +kernel
theorem dL_law_1689 : decode cL_law 1689 = .ok (.iload 6, 2) := by decide +kernel
theorem dL_law_1691 : decode cL_law 1691 = .ok (.if_icmp .eq 5, 3) := by decide +kernel
theorem dL_law_1694 : decode cL_law 1694 = .ok (.iconst 0, 1) := by decide +kernel
theorem dL_law_1695 : decode cL_law 1695 = .ok (.ireturn, 1) := by decide +kernel
theorem dL_law_1696 : decode cL_law 1696 = .ok (.iload 6, 2) := by decide +kernel
theorem dL_law_1698 : decode cL_law 1698 = .ok (.ifCond .ne 15, 3) := by decide +kernel
theorem dL_law_1701 : decode cL_law 1701 = .ok (.aload_n 3, 1) := by decide +kernel
theorem dL_law_1702 : decode cL_law 1702 = .ok (.iconst 0, 1) := by decide +kernel
theorem dL_law_1703 : decode cL_law 1703 = .ok (.laload, 1) := by decide +kernel
theorem dL_law_1704 : decode cL_law 1704 = .ok (.iload 7, 2) := by decide +kernel
theorem dL_law_1706 : decode cL_law 1706 = .ok (.i2l, 1) := by decide +kernel
theorem dL_law_1707 : decode cL_law 1707 = .ok (.lcmp, 1) := by decide +kernel
theorem dL_law_1708 : decode cL_law 1708 = .ok (.ifCond .eq 5, 3) := by decide +kernel
theorem dL_law_1711 : decode cL_law 1711 = .ok (.iconst 0, 1) := by decide +kernel
theorem dL_law_1712 : decode cL_law 1712 = .ok (.ireturn, 1) := by decide +kernel
theorem dL_law_1713 : decode cL_law 1713 = .ok (.goto 218, 3) := by decide +kernel
def tL_law_c22 : Tb := [(1660, .inl (f_aload 1, 1661)), (1661, .inl (f_aload 0, 1662)), (1662, .inl (f_iload 5, 1664)), (1664, .inl (f_ci (1), 1665)), (1665, .inl (f_iadd, 1666)), (1666, .inr (.inr (.inl (0, 1667, 0, m0)))), (1667, .inl (f_aload 3, 1668)), (1671, .inl (f_istore 10 6, 1673)), (1673, .inl (f_aload 2, 1674)), (1674, .inl (f_aload 0, 1675)), (1675, .inl (f_iload 5, 1677)), (1677, .inl (f_ci (1), 1678)), (1678, .inl (f_iadd, 1679)), (1679, .inr (.inr (.inl (0, 1680, 0, m0)))), (1680, .inr (.inr (.inl (13, 1683, 2, mX7_event)))), (1683, .inl (f_istore 10 7, 1685)), (1685, .inl (f_aload 2, 1686)), (1686, .inr (.inr (.inl (13, 1689, 1, mX7_thrown)))), (1689, .inl (f_iload 6, 1691)), (1691, .inr (.inl (b_icmp_eq, 1696, 1694))), (1694, .inl (f_ci (0), 1695)), (1695, .inr (.inr (.inl (15, 1696, 0, m0)))), (1696, .inl (f_iload 6, 1698)), (1698, .inr (.inl (b_if_eq, 1701, 1713))), (1701, .inl (f_aload 3, 1702)), (1702, .inl (f_ci (0), 1703)), (1703, .inr (.inr (.inl (2, 1704, 0, m0)))), (1704, .inl (f_iload 7, 1706)), (1706, .inl (f_i2l, 1707)), (1707, .inl (f_lcmp, 1708)), (1708, .inr (.inl (b_if_eq, 1713, 1711))), (1711, .inl (f_ci (0), 1712)), (1712, .inr (.inr (.inl (15, 1713, 0, m0)))), (1713, .inl (f_id, 1931))]
set_option maxRecDepth 10000 in
theorem kL_law_c22 {X : Ctx} (h : sCx X mL_law) : tab X mL_law tL_law_c22 :=
  tab_cons (eS (st_aloadn h rfl dL_law_1660)) (
  tab_cons (eS (st_aloadn h rfl dL_law_1661)) (
  tab_cons (eS (st_iload h dL_law_1662)) (
  tab_cons (eS (st_iconst h (by decide +kernel) dL_law_1664)) (
  tab_cons (eS (st_iadd h dL_law_1665)) (
  tab_cons (eO (so_iaload h dL_law_1666)) (
  tab_cons (eS (st_aloadn h rfl dL_law_1667)) (
  tab_cons (eS (st_istore h dL_law_1671)) (
  tab_cons (eS (st_aloadn h rfl dL_law_1673)) (
  tab_cons (eS (st_aloadn h rfl dL_law_1674)) (
  tab_cons (eS (st_iload h dL_law_1675)) (
  tab_cons (eS (st_iconst h (by decide +kernel) dL_law_1677)) (
  tab_cons (eS (st_iadd h dL_law_1678)) (
  tab_cons (eO (so_iaload h dL_law_1679)) (
  tab_cons (eO (so_callV h gl_198 gl_199 gl_200 gw_295 gl_201 ⟨by decide +kernel, by decide +kernel, by decide +kernel, by decide +kernel⟩ ⟨by decide +kernel, by decide +kernel⟩ dL_law_1680)) (
  tab_cons (eS (st_istore h dL_law_1683)) (
  tab_cons (eS (st_aloadn h rfl dL_law_1685)) (
  tab_cons (eO (so_callV h gl_98 gl_99 gl_100 gw_295 gl_101 ⟨by decide +kernel, by decide +kernel, by decide +kernel, by decide +kernel⟩ ⟨by decide +kernel, by decide +kernel⟩ dL_law_1686)) (
  tab_cons (eS (st_iload h dL_law_1689)) (
  tab_cons (eB (sb_icmp_eq h dL_law_1691 (by decide))) (
  tab_cons (eS (st_iconst h (by decide +kernel) dL_law_1694)) (
  tab_cons (eO (so_ireturn h dL_law_1695)) (
  tab_cons (eS (st_iload h dL_law_1696)) (
  tab_cons (eB (sb_if_ne h dL_law_1698 (by decide))) (
  tab_cons (eS (st_aloadn h rfl dL_law_1701)) (
  tab_cons (eS (st_iconst h (by decide +kernel) dL_law_1702)) (
  tab_cons (eO (so_laload h dL_law_1703)) (
  tab_cons (eS (st_iload h dL_law_1704)) (
  tab_cons (eS (st_i2l h dL_law_1706)) (
  tab_cons (eS (st_lcmp h dL_law_1707)) (
  tab_cons (eB (sb_if_eq h dL_law_1708 (by decide))) (
  tab_cons (eS (st_iconst h (by decide +kernel) dL_law_1711)) (
  tab_cons (eO (so_ireturn h dL_law_1712)) (
  tab_cons (eS (st_goto h dL_law_1713 (by decide))) (
  tab_nil))))))))))))))))))))))))))))))))))
theorem dL_law_1716 : decode cL_law 1716 = .ok (.aload_n 1, 1) := by decide +kernel
theorem dL_law_1717 : decode cL_law 1717 = .ok (.aload_n 0, 1) := by decide +kernel
theorem dL_law_1718 : decode cL_law 1718 = .ok (.iload 5, 2) := by decide +kernel
theorem dL_law_1720 : decode cL_law 1720 = .ok (.iconst 1, 1) := by decide +kernel
theorem dL_law_1721 : decode cL_law 1721 = .ok (.iadd, 1) := by decide +kernel
theorem dL_law_1722 : decode cL_law 1722 = .ok (.iaload, 1) := by decide +kernel
theorem dL_law_1723 : decode cL_law 1723 = .ok (.aload 4, 2) := by decide +kernel
theorem dL_law_1725 : decode cL_law 1725 = .ok (.invokestatic 187, 3) := by decide +kernel
theorem dL_law_1728 : decode cL_law 1728 = .ok (.istore 6, 2) := by decide +kernel
theorem dL_law_1730 : decode cL_law 1730 = .ok (.aload_n 2, 1) := by decide +kernel
theorem dL_law_1731 : decode cL_law 1731 = .ok (.aload_n 0, 1) := by decide +kernel
theorem dL_law_1732 : decode cL_law 1732 = .ok (.iload 5, 2) := by decide +kernel
theorem dL_law_1734 : decode cL_law 1734 = .ok (.iconst 1, 1) := by decide +kernel
theorem dL_law_1735 : decode cL_law 1735 = .ok (.iadd, 1) := by decide +kernel
theorem dL_law_1736 : decode cL_law 1736 = .ok (.iaload, 1) := by decide +kernel
theorem dL_law_1737 : decode cL_law 1737 = .ok (.invokevirtual 189, 3) := by decide +kernel
theorem dL_law_1740 : decode cL_law 1740 = .ok (.dstore 7, 2) := by decide +kernel
theorem dL_law_1742 : decode cL_law 1742 = .ok (.aload_n 2, 1) := by decide +kernel
theorem dL_law_1743 : decode cL_law 1743 = .ok (.invokevirtual 105, 3) := by decide +kernel
theorem dL_law_1746 : decode cL_law 1746 = .ok (.iload 6, 2) := by decide +kernel
theorem dL_law_1748 : decode cL_law 1748 = .ok (.if_icmp .eq 5, 3) := by decide +kernel
theorem dL_law_1751 : decode cL_law 1751 = .ok (.iconst 0, 1) := by decide +kernel
theorem dL_law_1752 : decode cL_law 1752 = .ok (.ireturn, 1) := by decide +kernel
theorem dL_law_1753 : decode cL_law 1753 = .ok (.iload 6, 2) := by decide +kernel
theorem dL_law_1755 : decode cL_law 1755 = .ok (.ifCond .ne 35, 3) := by decide +kernel
theorem dL_law_1758 : decode cL_law 1758 = .ok (.aload 4, 2) := by decide +kernel
theorem dL_law_1760 : decode cL_law 1760 = .ok (.iconst 0, 1) := by decide +kernel
theorem dL_law_1761 : decode cL_law 1761 = .ok (.daload, 1) := by decide +kernel
theorem dL_law_1762 : decode cL_law 1762 = .ok (.dload 7, 2) := by decide +kernel
theorem dL_law_1764 : decode cL_law 1764 = .ok (.dcmp .l, 1) := by decide +kernel
theorem dL_law_1765 : decode cL_law 1765 = .ok (.ifCond .eq 25, 3) := by decide +kernel
theorem dL_law_1768 : decode cL_law 1768 = .ok (.aload 4, 2) := by decide +kernel
theorem dL_law_1770 : decode cL_law 1770 = .ok (.iconst 0, 1) := by decide +kernel
theorem dL_law_1771 : decode cL_law 1771 = .ok (.daload, 1) := by decide +kernel
theorem dL_law_1772 : decode cL_law 1772 = .ok (.aload 4, 2) := by decide +kernel
theorem dL_law_1774 : decode cL_law 1774 = .ok (.iconst 0, 1) := by decide +kernel
theorem dL_law_1775 : decode cL_law 1775 = .ok (.daload, 1) := by decide +kernel
theorem dL_law_1776 : decode cL_law 1776 = .ok (.dcmp .l, 1) := by decide +kernel
theorem dL_law_1777 : decode cL_law 1777 = .ok (.ifCond .eq 11, 3) := by decide +kernel
theorem dL_law_1780 : decode cL_law 1780 = .ok (.dload 7, 2) := by decide +kernel
theorem dL_law_1782 : decode cL_law 1782 = .ok (.dload 7, 2) := by decide +kernel
theorem dL_law_1784 : decode cL_law 1784 = .ok (.dcmp .l, 1) := by decide +kernel
theorem dL_law_1785 : decode cL_law 1785 = .ok (.ifCond .ne 5, 3) := by decide +kernel
theorem dL_law_1788 : decode cL_law 1788 = .ok (.iconst 0, 1) := by decide +kernel
theorem dL_law_1789 : decode cL_law 1789 = .ok (.ireturn, 1) := by decide +kernel
theorem dL_law_1790 : decode cL_law 1790 = .ok (.goto 141, 3) := by decide +kernel
def tL_law_c23 : Tb := [(1716, .inl (f_aload 1, 1717)), (1717, .inl (f_aload 0, 1718)), (1718, .inl (f_iload 5, 1720)), (1720, .inl (f_ci (1), 1721)), (1721, .inl (f_iadd, 1722)), (1722, .inr (.inr (.inl (0, 1723, 0, m0)))), (1723, .inl (f_aload 4, 1725)), (1728, .inl (f_istore 10 6, 1730)), (1730, .inl (f_aload 2, 1731)), (1731, .inl (f_aload 0, 1732)), (1732, .inl (f_iload 5, 1734)), (1734, .inl (f_ci (1), 1735)), (1735, .inl (f_iadd, 1736)), (1736, .inr (.inr (.inl (0, 1737, 0, m0)))), (1737, .inr (.inr (.inl (13, 1740, 2, mX7_eventTime)))), (1740, .inl (f_dstore 10 7, 1742)), (1742, .inl (f_aload 2, 1743)), (1743, .inr (.inr (.inl (13, 1746, 1, mX7_thrown)))), (1746, .inl (f_iload 6, 1748)), (1748, .inr (.inl (b_icmp_eq, 1753, 1751))), (1751, .inl (f_ci (0), 1752)), (1752, .inr (.inr (.inl (15, 1753, 0, m0)))), (1753, .inl (f_iload 6, 1755)), (1755, .inr (.inl (b_if_eq, 1758, 1790))), (1758, .inl (f_aload 4, 1760)), (1760, .inl (f_ci (0), 1761)), (1761, .inr (.inr (.inl (1, 1762, 0, m0)))), (1762, .inl (f_dload 7, 1764)), (1764, .inl (f_dcmpl, 1765)), (1765, .inr (.inl (b_if_eq, 1790, 1768))), (1768, .inl (f_aload 4, 1770)), (1770, .inl (f_ci (0), 1771)), (1771, .inr (.inr (.inl (1, 1772, 0, m0)))), (1772, .inl (f_aload 4, 1774)), (1774, .inl (f_ci (0), 1775)), (1775, .inr (.inr (.inl (1, 1776, 0, m0)))), (1776, .inl (f_dcmpl, 1777)), (1777, .inr (.inl (b_if_eq, 1788, 1780))), (1780, .inl (f_dload 7, 1782)), (1782, .inl (f_dload 7, 1784)), (1784, .inl (f_dcmpl, 1785)), (1785, .inr (.inl (b_if_eq, 1788, 1790))), (1788, .inl (f_ci (0), 1789)), (1789, .inr (.inr (.inl (15, 1790, 0, m0)))), (1790, .inl (f_id, 1931))]
set_option maxRecDepth 10000 in
theorem kL_law_c23 {X : Ctx} (h : sCx X mL_law) : tab X mL_law tL_law_c23 :=
  tab_cons (eS (st_aloadn h rfl dL_law_1716)) (
  tab_cons (eS (st_aloadn h rfl dL_law_1717)) (
  tab_cons (eS (st_iload h dL_law_1718)) (
  tab_cons (eS (st_iconst h (by decide +kernel) dL_law_1720)) (
  tab_cons (eS (st_iadd h dL_law_1721)) (
  tab_cons (eO (so_iaload h dL_law_1722)) (
  tab_cons (eS (st_aload h dL_law_1723)) (
  tab_cons (eS (st_istore h dL_law_1728)) (
  tab_cons (eS (st_aloadn h rfl dL_law_1730)) (
  tab_cons (eS (st_aloadn h rfl dL_law_1731)) (
  tab_cons (eS (st_iload h dL_law_1732)) (
  tab_cons (eS (st_iconst h (by decide +kernel) dL_law_1734)) (
  tab_cons (eS (st_iadd h dL_law_1735)) (
  tab_cons (eO (so_iaload h dL_law_1736)) (
  tab_cons (eO (so_callV h gl_202 gl_203 gl_204 gw_295 gl_205 ⟨by decide +kernel, by decide +kernel, by decide +kernel, by decide +kernel⟩ ⟨by decide +kernel, by decide +kernel⟩ dL_law_1737)) (
  tab_cons (eS (st_dstore h dL_law_1740)) (
  tab_cons (eS (st_aloadn h rfl dL_law_1742)) (
  tab_cons (eO (so_callV h gl_98 gl_99 gl_100 gw_295 gl_101 ⟨by decide +kernel, by decide +kernel, by decide +kernel, by decide +kernel⟩ ⟨by decide +kernel, by decide +kernel⟩ dL_law_1743)) (
  tab_cons (eS (st_iload h dL_law_1746)) (
  tab_cons (eB (sb_icmp_eq h dL_law_1748 (by decide))) (
  tab_cons (eS (st_iconst h (by decide +kernel) dL_law_1751)) (
  tab_cons (eO (so_ireturn h dL_law_1752)) (
  tab_cons (eS (st_iload h dL_law_1753)) (
  tab_cons (eB (sb_if_ne h dL_law_1755 (by decide))) (
  tab_cons (eS (st_aload h dL_law_1758)) (
  tab_cons (eS (st_iconst h (by decide +kernel) dL_law_1760)) (
  tab_cons (eO (so_daload h dL_law_1761)) (
  tab_cons (eS (st_dload h dL_law_1762)) (
  tab_cons (eS (st_dcmpl h dL_law_1764)) (
  tab_cons (eB (sb_if_eq h dL_law_1765 (by decide))) (
  tab_cons (eS (st_aload h dL_law_1768)) (
  tab_cons (eS (st_iconst h (by decide +kernel) dL_law_1770)) (
  tab_cons (eO (so_daload h dL_law_1771)) (
  tab_cons (eS (st_aload h dL_law_1772)) (
  tab_cons (eS (st_iconst h (by decide +kernel) dL_law_1774)) (
  tab_cons (eO (so_daload h dL_law_1775)) (
  tab_cons (eS (st_dcmpl h dL_law_1776)) (
  tab_cons (eB (sb_if_eq h dL_law_1777 (by decide))) (
  tab_cons (eS (st_dload h dL_law_1780)) (
  tab_cons (eS (st_dload h dL_law_1782)) (
  tab_cons (eS (st_dcmpl h dL_law_1784)) (
  tab_cons (eB (sb_if_ne h dL_law_1785 (by decide))) (
  tab_cons (eS (st_iconst h (by decide +kernel) dL_law_1788)) (
  tab_cons (eO (so_ireturn h dL_law_1789)) (
  tab_cons (eS (st_goto h dL_law_1790 (by decide))) (
  tab_nil)))))))))))))))))))))))))))))))))))))))))))))
theorem dL_law_1793 : decode cL_law 1793 = .ok (.aload_n 1, 1) := by decide +kernel
theorem dL_law_1794 : decode cL_law 1794 = .ok (.invokevirtual 190, 3) := by decide +kernel
theorem dL_law_1797 : decode cL_law 1797 = .ok (.dstore 6, 2) := by decide +kernel
theorem dL_law_1799 : decode cL_law 1799 = .ok (.aload_n 2, 1) := by decide +kernel
theorem dL_law_1800 : decode cL_law 1800 = .ok (.invokevirtual 194, 3) := by decide +kernel
theorem dL_law_1803 : decode cL_law 1803 = .ok (.dstore 8, 2) := by decide +kernel
theorem dL_law_1805 : decode cL_law 1805 = .ok (.dload 6, 2) := by decide +kernel
theorem dL_law_1807 : decode cL_law 1807 = .ok (.dload 8, 2) := by decide +kernel
theorem dL_law_1809 : decode cL_law 1809 = .ok (.dcmp .l, 1) := by decide +kernel
theorem dL_law_1810 : decode cL_law 1810 = .ok (.ifCond .eq 21, 3) := by decide +kernel
theorem dL_law_1813 : decode cL_law 1813 = .ok (.dload 6, 2) := by decide +kernel
theorem dL_law_1815 : decode cL_law 1815 = .ok (.dload 6, 2) := by decide +kernel
theorem dL_law_1817 : decode cL_law 1817 = .ok (.dcmp .l, 1) := by decide +kernel
theorem dL_law_1818 : decode cL_law 1818 = .ok (.ifCond .eq 11, 3) := by decide +kernel
theorem dL_law_1821 : decode cL_law 1821 = .ok (.dload 8, 2) := by decide +kernel
theorem dL_law_1823 : decode cL_law 1823 = .ok (.dload 8, 2) := by decide +kernel
theorem dL_law_1825 : decode cL_law 1825 = .ok (.dcmp .l, 1) := by decide +kernel
theorem dL_law_1826 : decode cL_law 1826 = .ok (.ifCond .ne 5, 3) := by decide +kernel
theorem dL_law_1829 : decode cL_law 1829 = .ok (.iconst 0, 1) := by decide +kernel
theorem dL_law_1830 : decode cL_law 1830 = .ok (.ireturn, 1) := by decide +kernel
theorem dL_law_1831 : decode cL_law 1831 = .ok (.goto 100, 3) := by decide +kernel
def tL_law_c24 : Tb := [(1793, .inl (f_aload 1, 1794)), (1794, .inr (.inr (.inl (13, 1797, 1, mX6_clearedTime)))), (1797, .inl (f_dstore 10 6, 1799)), (1799, .inl (f_aload 2, 1800)), (1800, .inr (.inr (.inl (13, 1803, 1, mX7_clearedTime)))), (1803, .inl (f_dstore 10 8, 1805)), (1805, .inl (f_dload 6, 1807)), (1807, .inl (f_dload 8, 1809)), (1809, .inl (f_dcmpl, 1810)), (1810, .inr (.inl (b_if_eq, 1831, 1813))), (1813, .inl (f_dload 6, 1815)), (1815, .inl (f_dload 6, 1817)), (1817, .inl (f_dcmpl, 1818)), (1818, .inr (.inl (b_if_eq, 1829, 1821))), (1821, .inl (f_dload 8, 1823)), (1823, .inl (f_dload 8, 1825)), (1825, .inl (f_dcmpl, 1826)), (1826, .inr (.inl (b_if_eq, 1829, 1831))), (1829, .inl (f_ci (0), 1830)), (1830, .inr (.inr (.inl (15, 1831, 0, m0)))), (1831, .inl (f_id, 1931))]
set_option maxRecDepth 10000 in
theorem kL_law_c24 {X : Ctx} (h : sCx X mL_law) : tab X mL_law tL_law_c24 :=
  tab_cons (eS (st_aloadn h rfl dL_law_1793)) (
  tab_cons (eO (so_callV h gl_206 gl_207 gl_208 gw_27 gl_209 ⟨by decide +kernel, by decide +kernel, by decide +kernel, by decide +kernel⟩ ⟨by decide +kernel, by decide +kernel⟩ dL_law_1794)) (
  tab_cons (eS (st_dstore h dL_law_1797)) (
  tab_cons (eS (st_aloadn h rfl dL_law_1799)) (
  tab_cons (eO (so_callV h gl_210 gl_211 gl_212 gw_295 gl_213 ⟨by decide +kernel, by decide +kernel, by decide +kernel, by decide +kernel⟩ ⟨by decide +kernel, by decide +kernel⟩ dL_law_1800)) (
  tab_cons (eS (st_dstore h dL_law_1803)) (
  tab_cons (eS (st_dload h dL_law_1805)) (
  tab_cons (eS (st_dload h dL_law_1807)) (
  tab_cons (eS (st_dcmpl h dL_law_1809)) (
  tab_cons (eB (sb_if_eq h dL_law_1810 (by decide))) (
  tab_cons (eS (st_dload h dL_law_1813)) (
  tab_cons (eS (st_dload h dL_law_1815)) (
  tab_cons (eS (st_dcmpl h dL_law_1817)) (
  tab_cons (eB (sb_if_eq h dL_law_1818 (by decide))) (
  tab_cons (eS (st_dload h dL_law_1821)) (
  tab_cons (eS (st_dload h dL_law_1823)) (
  tab_cons (eS (st_dcmpl h dL_law_1825)) (
  tab_cons (eB (sb_if_ne h dL_law_1826 (by decide))) (
  tab_cons (eS (st_iconst h (by decide +kernel) dL_law_1829)) (
  tab_cons (eO (so_ireturn h dL_law_1830)) (
  tab_cons (eS (st_goto h dL_law_1831 (by decide))) (
  tab_nil)))))))))))))))))))))
theorem dL_law_1834 : decode cL_law 1834 = .ok (.aload_n 1, 1) := by decide +kernel
theorem dL_law_1835 : decode cL_law 1835 = .ok (.invokevirtual 195, 3) := by decide +kernel
theorem dL_law_1838 : decode cL_law 1838 = .ok (.aload_n 2, 1) := by decide +kernel
theorem dL_law_1839 : decode cL_law 1839 = .ok (.invokevirtual 198, 3) := by decide +kernel
theorem dL_law_1842 : decode cL_law 1842 = .ok (.if_icmp .eq 89, 3) := by decide +kernel
theorem dL_law_1845 : decode cL_law 1845 = .ok (.iconst 0, 1) := by decide +kernel
theorem dL_law_1846 : decode cL_law 1846 = .ok (.ireturn, 1) := by decide +kernel
def tL_law_c25 : Tb := [(1834, .inl (f_aload 1, 1835)), (1835, .inr (.inr (.inl (13, 1838, 1, mX6_openBreakers)))), (1838, .inl (f_aload 2, 1839)), (1839, .inr (.inr (.inl (13, 1842, 1, mX7_openBreakers)))), (1842, .inr (.inl (b_icmp_eq, 1931, 1845))), (1845, .inl (f_ci (0), 1846)), (1846, .inr (.inr (.inl (15, 1847, 0, m0))))]
set_option maxRecDepth 10000 in
theorem kL_law_c25 {X : Ctx} (h : sCx X mL_law) : tab X mL_law tL_law_c25 :=
  tab_cons (eS (st_aloadn h rfl dL_law_1834)) (
  tab_cons (eO (so_callV h gl_214 gl_215 gl_216 gw_27 gl_217 ⟨by decide +kernel, by decide +kernel, by decide +kernel, by decide +kernel⟩ ⟨by decide +kernel, by decide +kernel⟩ dL_law_1835)) (
  tab_cons (eS (st_aloadn h rfl dL_law_1838)) (
  tab_cons (eO (so_callV h gl_218 gl_219 gl_220 gw_295 gl_221 ⟨by decide +kernel, by decide +kernel, by decide +kernel, by decide +kernel⟩ ⟨by decide +kernel, by decide +kernel⟩ dL_law_1839)) (
  tab_cons (eB (sb_icmp_eq h dL_law_1842 (by decide))) (
  tab_cons (eS (st_iconst h (by decide +kernel) dL_law_1845)) (
  tab_cons (eO (so_ireturn h dL_law_1846)) (
  tab_nil)))))))
theorem dL_law_1847 : decode cL_law 1847 = .ok (.aload_n 1, 1) := by decide +kernel
theorem dL_law_1848 : decode cL_law 1848 = .ok (.invokevirtual 199, 3) := by decide +kernel
theorem dL_law_1851 : decode cL_law 1851 = .ok (.aload_n 2, 1) := by decide +kernel
theorem dL_law_1852 : decode cL_law 1852 = .ok (.invokevirtual 202, 3) := by decide +kernel
theorem dL_law_1855 : decode cL_law 1855 = .ok (.if_icmp .eq 76, 3) := by decide +kernel
theorem dL_law_1858 : decode cL_law 1858 = .ok (.iconst 0, 1) := by decide +kernel
theorem dL_law_1859 : decode cL_law 1859 = .ok (.ireturn, 1) := by decide +kernel
def tL_law_c26 : Tb := [(1847, .inl (f_aload 1, 1848)), (1848, .inr (.inr (.inl (13, 1851, 1, mX6_lostLoad)))), (1851, .inl (f_aload 2, 1852)), (1852, .inr (.inr (.inl (13, 1855, 1, mX7_lostLoad)))), (1855, .inr (.inl (b_icmp_eq, 1931, 1858))), (1858, .inl (f_ci (0), 1859)), (1859, .inr (.inr (.inl (15, 1860, 0, m0))))]
set_option maxRecDepth 10000 in
theorem kL_law_c26 {X : Ctx} (h : sCx X mL_law) : tab X mL_law tL_law_c26 :=
  tab_cons (eS (st_aloadn h rfl dL_law_1847)) (
  tab_cons (eO (so_callV h gl_222 gl_223 gl_224 gw_27 gl_225 ⟨by decide +kernel, by decide +kernel, by decide +kernel, by decide +kernel⟩ ⟨by decide +kernel, by decide +kernel⟩ dL_law_1848)) (
  tab_cons (eS (st_aloadn h rfl dL_law_1851)) (
  tab_cons (eO (so_callV h gl_226 gl_227 gl_228 gw_295 gl_229 ⟨by decide +kernel, by decide +kernel, by decide +kernel, by decide +kernel⟩ ⟨by decide +kernel, by decide +kernel⟩ dL_law_1852)) (
  tab_cons (eB (sb_icmp_eq h dL_law_1855 (by decide))) (
  tab_cons (eS (st_iconst h (by decide +kernel) dL_law_1858)) (
  tab_cons (eO (so_ireturn h dL_law_1859)) (
  tab_nil)))))))
theorem dL_law_1860 : decode cL_law 1860 = .ok (.aload_n 1, 1) := by decide +kernel
theorem dL_law_1861 : decode cL_law 1861 = .ok (.invokevirtual 203, 3) := by decide +kernel
theorem dL_law_1864 : decode cL_law 1864 = .ok (.aload_n 2, 1) := by decide +kernel
theorem dL_law_1865 : decode cL_law 1865 = .ok (.invokevirtual 206, 3) := by decide +kernel
theorem dL_law_1868 : decode cL_law 1868 = .ok (.if_icmp .eq 63, 3) := by decide +kernel
theorem dL_law_1871 : decode cL_law 1871 = .ok (.iconst 0, 1) := by decide +kernel
theorem dL_law_1872 : decode cL_law 1872 = .ok (.ireturn, 1) := by decide +kernel
def tL_law_c27 : Tb := [(1860, .inl (f_aload 1, 1861)), (1861, .inr (.inr (.inl (13, 1864, 1, mX6_closeAll)))), (1864, .inl (f_aload 2, 1865)), (1865, .inr (.inr (.inl (13, 1868, 1, mX7_closeAll)))), (1868, .inr (.inl (b_icmp_eq, 1931, 1871))), (1871, .inl (f_ci (0), 1872)), (1872, .inr (.inr (.inl (15, 1873, 0, m0))))]
set_option maxRecDepth 10000 in
theorem kL_law_c27 {X : Ctx} (h : sCx X mL_law) : tab X mL_law tL_law_c27 :=
  tab_cons (eS (st_aloadn h rfl dL_law_1860)) (
  tab_cons (eO (so_callV h gl_230 gl_231 gl_232 gw_27 gl_233 ⟨by decide +kernel, by decide +kernel, by decide +kernel, by decide +kernel⟩ ⟨by decide +kernel, by decide +kernel⟩ dL_law_1861)) (
  tab_cons (eS (st_aloadn h rfl dL_law_1864)) (
  tab_cons (eO (so_callV h gl_234 gl_235 gl_236 gw_295 gl_237 ⟨by decide +kernel, by decide +kernel, by decide +kernel, by decide +kernel⟩ ⟨by decide +kernel, by decide +kernel⟩ dL_law_1865)) (
  tab_cons (eB (sb_icmp_eq h dL_law_1868 (by decide))) (
  tab_cons (eS (st_iconst h (by decide +kernel) dL_law_1871)) (
  tab_cons (eO (so_ireturn h dL_law_1872)) (
  tab_nil)))))))
theorem dL_law_1873 : decode cL_law 1873 = .ok (.aload_n 1, 1) := by decide +kernel
theorem dL_law_1874 : decode cL_law 1874 = .ok (.aload_n 3, 1) := by decide +kernel
theorem dL_law_1875 : decode cL_law 1875 = .ok (.invokestatic 207, 3) := by decide +kernel
theorem dL_law_1878 : decode cL_law 1878 = .ok (.istore 6, 2) := by decide +kernel
theorem dL_law_1880 : decode cL_law 1880 = .ok (.aload_n 2, 1) := by decide +kernel
theorem dL_law_1881 : decode cL_law 1881 = .ok (.invokevirtual 210, 3) := by decide +kernel
theorem dL_law_1884 : decode cL_law 1884 = .ok (.istore 7, 2) := by decide +kernel
theorem dL_law_1886 : decode cL_law 1886 = .ok (.aload_n 2, 1) := by decide +kernel
theorem dL_law_1887 : decode cL_law 1887 = .ok (.invokevirtual 105, 3) := by decide +kernel
theorem dL_law_1890 : decode cL_law 1890 = .ok (.iload 6, 2) := by decide +kernel
theorem dL_law_1892 : decode cL_law 1892 = .ok (.if_icmp .eq 5, 3) := by decide +kernel
theorem dL_law_1895 : decode cL_law 1895 = .ok (.iconst 0, 1) := by decide +kernel
theorem dL_law_1896 : decode cL_law 1896 = .ok (.ireturn, 1) := by decide +kernel
theorem dL_law_1897 : decode cL_law 1897 = .ok (.iload 6, 2) := by decide +kernel
theorem dL_law_1899 : decode cL_law 1899 = .ok (.ifCond .ne 15, 3) := by decide +kernel
theorem dL_law_1902 : decode cL_law 1902 = .ok (.aload_n 3, 1) := by decide +kernel
theorem dL_law_1903 : decode cL_law 1903 = .ok (.iconst 0, 1) := by decide +kernel
theorem dL_law_1904 : decode cL_law 1904 = .ok (.laload, 1) := by decide +kernel
theorem dL_law_1905 : decode cL_law 1905 = .ok (.iload 7, 2) := by decide +kernel
theorem dL_law_1907 : decode cL_law 1907 = .ok (.i2l, 1) := by decide +kernel
theorem dL_law_1908 : decode cL_law 1908 = .ok (.lcmp, 1) := by decide +kernel
theorem dL_law_1909 : decode cL_law 1909 = .ok (.ifCond .eq 5, 3) := by decide +kernel
theorem dL_law_1912 : decode cL_law 1912 = .ok (.iconst 0, 1) := by decide +kernel
theorem dL_law_1913 : decode cL_law 1913 = .ok (.ireturn, 1) := by decide +kernel
theorem dL_law_1914 : decode cL_law 1914 = .ok (.goto 17, 3) := by decide +kernel
def tL_law_c28 : Tb := [(1873, .inl (f_aload 1, 1874)), (1874, .inl (f_aload 3, 1875)), (1878, .inl (f_istore 10 6, 1880)), (1880, .inl (f_aload 2, 1881)), (1881, .inr (.inr (.inl (13, 1884, 1, mX7_undo)))), (1884, .inl (f_istore 10 7, 1886)), (1886, .inl (f_aload 2, 1887)), (1887, .inr (.inr (.inl (13, 1890, 1, mX7_thrown)))), (1890, .inl (f_iload 6, 1892)), (1892, .inr (.inl (b_icmp_eq, 1897, 1895))), (1895, .inl (f_ci (0), 1896)), (1896, .inr (.inr (.inl (15, 1897, 0, m0)))), (1897, .inl (f_iload 6, 1899)), (1899, .inr (.inl (b_if_eq, 1902, 1914))), (1902, .inl (f_aload 3, 1903)), (1903, .inl (f_ci (0), 1904)), (1904, .inr (.inr (.inl (2, 1905, 0, m0)))), (1905, .inl (f_iload 7, 1907)), (1907, .inl (f_i2l, 1908)), (1908, .inl (f_lcmp, 1909)), (1909, .inr (.inl (b_if_eq, 1914, 1912))), (1912, .inl (f_ci (0), 1913)), (1913, .inr (.inr (.inl (15, 1914, 0, m0)))), (1914, .inl (f_id, 1931))]
set_option maxRecDepth 10000 in
theorem kL_law_c28 {X : Ctx} (h : sCx X mL_law) : tab X mL_law tL_law_c28 :=
  tab_cons (eS (st_aloadn h rfl dL_law_1873)) (
  tab_cons (eS (st_aloadn h rfl dL_law_1874)) (
  tab_cons (eS (st_istore h dL_law_1878)) (
  tab_cons (eS (st_aloadn h rfl dL_law_1880)) (
  tab_cons (eO (so_callV h gl_238 gl_239 gl_240 gw_295 gl_241 ⟨by decide +kernel, by decide +kernel, by decide +kernel, by decide +kernel⟩ ⟨by decide +kernel, by decide +kernel⟩ dL_law_1881)) (
  tab_cons (eS (st_istore h dL_law_1884)) (
  tab_cons (eS (st_aloadn h rfl dL_law_1886)) (
  tab_cons (eO (so_callV h gl_98 gl_99 gl_100 gw_295 gl_101 ⟨by decide +kernel, by decide +kernel, by decide +kernel, by decide +kernel⟩ ⟨by decide +kernel, by decide +kernel⟩ dL_law_1887)) (
  tab_cons (eS (st_iload h dL_law_1890)) (
  tab_cons (eB (sb_icmp_eq h dL_law_1892 (by decide))) (
  tab_cons (eS (st_iconst h (by decide +kernel) dL_law_1895)) (
  tab_cons (eO (so_ireturn h dL_law_1896)) (
  tab_cons (eS (st_iload h dL_law_1897)) (
  tab_cons (eB (sb_if_ne h dL_law_1899 (by decide))) (
  tab_cons (eS (st_aloadn h rfl dL_law_1902)) (
  tab_cons (eS (st_iconst h (by decide +kernel) dL_law_1903)) (
  tab_cons (eO (so_laload h dL_law_1904)) (
  tab_cons (eS (st_iload h dL_law_1905)) (
  tab_cons (eS (st_i2l h dL_law_1907)) (
  tab_cons (eS (st_lcmp h dL_law_1908)) (
  tab_cons (eB (sb_if_eq h dL_law_1909 (by decide))) (
  tab_cons (eS (st_iconst h (by decide +kernel) dL_law_1912)) (
  tab_cons (eO (so_ireturn h dL_law_1913)) (
  tab_cons (eS (st_goto h dL_law_1914 (by decide))) (
  tab_nil))))))))))))))))))))))))
theorem dL_law_1917 : decode cL_law 1917 = .ok (.aload_n 1, 1) := by decide +kernel
theorem dL_law_1918 : decode cL_law 1918 = .ok (.invokevirtual 211, 3) := by decide +kernel
theorem dL_law_1921 : decode cL_law 1921 = .ok (.aload_n 2, 1) := by decide +kernel
theorem dL_law_1922 : decode cL_law 1922 = .ok (.invokevirtual 215, 3) := by decide +kernel
theorem dL_law_1925 : decode cL_law 1925 = .ok (.lcmp, 1) := by decide +kernel
theorem dL_law_1926 : decode cL_law 1926 = .ok (.ifCond .eq 5, 3) := by decide +kernel
theorem dL_law_1929 : decode cL_law 1929 = .ok (.iconst 0, 1) := by decide +kernel
theorem dL_law_1930 : decode cL_law 1930 = .ok (.ireturn, 1) := by decide +kernel
def tL_law_c29 : Tb := [(1917, .inl (f_aload 1, 1918)), (1918, .inr (.inr (.inl (13, 1921, 1, mX6_digest)))), (1921, .inl (f_aload 2, 1922)), (1922, .inr (.inr (.inl (13, 1925, 1, mX7_digest)))), (1925, .inl (f_lcmp, 1926)), (1926, .inr (.inl (b_if_eq, 1931, 1929))), (1929, .inl (f_ci (0), 1930)), (1930, .inr (.inr (.inl (15, 1931, 0, m0))))]
set_option maxRecDepth 10000 in
theorem kL_law_c29 {X : Ctx} (h : sCx X mL_law) : tab X mL_law tL_law_c29 :=
  tab_cons (eS (st_aloadn h rfl dL_law_1917)) (
  tab_cons (eO (so_callV h gl_242 gl_243 gl_244 gw_27 gl_245 ⟨by decide +kernel, by decide +kernel, by decide +kernel, by decide +kernel⟩ ⟨by decide +kernel, by decide +kernel⟩ dL_law_1918)) (
  tab_cons (eS (st_aloadn h rfl dL_law_1921)) (
  tab_cons (eO (so_callV h gl_246 gl_247 gl_248 gw_295 gl_249 ⟨by decide +kernel, by decide +kernel, by decide +kernel, by decide +kernel⟩ ⟨by decide +kernel, by decide +kernel⟩ dL_law_1922)) (
  tab_cons (eS (st_lcmp h dL_law_1925)) (
  tab_cons (eB (sb_if_eq h dL_law_1926 (by decide))) (
  tab_cons (eS (st_iconst h (by decide +kernel) dL_law_1929)) (
  tab_cons (eO (so_ireturn h dL_law_1930)) (
  tab_nil))))))))
theorem dL_law_1931 : decode cL_law 1931 = .ok (.iinc 5 5, 3) := by decide +kernel
theorem dL_law_1934 : decode cL_law 1934 = .ok (.goto (-1906), 3) := by decide +kernel
theorem dL_law_1937 : decode cL_law 1937 = .ok (.iconst 1, 1) := by decide +kernel
theorem dL_law_1938 : decode cL_law 1938 = .ok (.ireturn, 1) := by decide +kernel
def tL_law_e : Tb := [(1931, .inl (f_iinc 10 5 (5), 1934)), (1934, .inl (f_id, 28)), (1937, .inl (f_ci (1), 1938)), (1938, .inr (.inr (.inl (15, 1939, 0, m0))))]
set_option maxRecDepth 10000 in
theorem kL_law_e {X : Ctx} (h : sCx X mL_law) : tab X mL_law tL_law_e :=
  tab_cons (eS (st_iinc h (by decide +kernel) dL_law_1931)) (
  tab_cons (eS (st_goto h dL_law_1934 (by decide))) (
  tab_cons (eS (st_iconst h (by decide +kernel) dL_law_1937)) (
  tab_cons (eO (so_ireturn h dL_law_1938)) (
  tab_nil))))
