set_option maxRecDepth 100000 in
theorem zh_dL_law_1540_1520 : zc cL_law 1520 [42, 21, 4, 4, 96, 46, 42, 21, 4, 5, 96, 46, 182, 0, 148, 159, 1, 68, 3, 172, 43, 42, 21, 4, 4, 96, 46, 42, 21, 4, 5, 96, 46, 182, 0, 149, 87, 44, 42, 21] = true := by decide +kernel
set_option maxRecDepth 100000 in
theorem zh_dL_law_1559_1560 : zc cL_law 1560 [4, 4, 96, 46, 42, 21, 4, 5, 96, 46, 182, 0, 152, 87, 167, 1, 29, 43, 42, 21, 4, 4, 96, 46, 182, 0, 153, 87, 44, 42, 21, 4, 4, 96, 46, 182, 0, 156, 87, 167] = true := by decide +kernel
set_option maxRecDepth 100000 in
theorem zh_dL_law_1599_1600 : zc cL_law 1600 [1, 4, 43, 42, 21, 4, 4, 96, 46, 42, 21, 4, 5, 96, 46, 182, 0, 157, 87, 44, 42, 21, 4, 4, 96, 46, 42, 21, 4, 5, 96, 46, 182, 0, 160, 87, 167, 0, 223, 43] = true := by decide +kernel
set_option maxRecDepth 100000 in
theorem zh_dL_law_1640_1640 : zc cL_law 1640 [42, 21, 4, 4, 96, 46, 42, 21, 4, 5, 96, 46, 42, 21, 4, 6, 96, 46, 42, 21, 4, 7, 96, 46, 182, 0, 161, 87, 44, 42, 21, 4, 4, 96, 46, 42, 21, 4, 5, 96] = true := by decide +kernel
set_option maxRecDepth 100000 in
theorem zh_dL_law_1680_1680 : zc cL_law 1680 [46, 42, 21, 4, 6, 96, 46, 42, 21, 4, 7, 96, 46, 182, 0, 164, 87, 167, 0, 162, 43, 42, 21, 4, 4, 96, 46, 182, 0, 165, 87, 44, 42, 21, 4, 4, 96, 46, 182, 0] = true := by decide +kernel
set_option maxRecDepth 100000 in
theorem zh_dL_law_1718_1720 : zc cL_law 1720 [168, 87, 167, 0, 137, 43, 42, 21, 4, 4, 96, 46, 42, 21, 4, 5, 96, 46, 133, 16, 32, 121, 42, 21, 4, 6, 96, 46, 133, 20, 0, 169, 127, 129, 182, 0, 171, 87, 44, 42] = true := by decide +kernel
set_option maxRecDepth 100000 in
theorem zh_dL_law_1760_1760 : zc cL_law 1760 [21, 4, 4, 96, 46, 42, 21, 4, 5, 96, 46, 133, 16, 32, 121, 42, 21, 4, 6, 96, 46, 133, 20, 0, 169, 127, 129, 182, 0, 175, 87, 167, 0, 68, 43, 42, 21, 4, 4, 96] = true := by decide +kernel
set_option maxRecDepth 100000 in
theorem zh_dL_law_1800_1800 : zc cL_law 1800 [46, 42, 21, 4, 5, 96, 46, 45, 184, 0, 176, 54, 5, 44, 42, 21, 4, 4, 96, 46, 42, 21, 4, 5, 96, 46, 182, 0, 181, 54, 6, 167, 0, 28, 43, 42, 21, 4, 4, 96] = true := by decide +kernel
set_option maxRecDepth 100000 in
theorem zh_dL_law_1840_1840 : zc cL_law 1840 [46, 182, 0, 182, 87, 44, 42, 21, 4, 4, 96, 46, 182, 0, 185, 87, 167, 0, 3, 132, 4, 8, 167, 248, 209, 4, 172] = true := by decide +kernel
theorem dL_law_1540 : decode cL_law 1540 = .ok (.aload_n 1, 1) := zo_43 (zi_at zh_dL_law_1540_1520 20 rfl)
theorem dL_law_1541 : decode cL_law 1541 = .ok (.aload_n 0, 1) := zo_42 (zi_at zh_dL_law_1540_1520 21 rfl)
theorem dL_law_1542 : decode cL_law 1542 = .ok (.iload 4, 2) := zo_21 (zi_at zh_dL_law_1540_1520 22 rfl) (zi_at zh_dL_law_1540_1520 23 rfl)
theorem dL_law_1544 : decode cL_law 1544 = .ok (.iconst 1, 1) := zo_4 (zi_at zh_dL_law_1540_1520 24 rfl)
theorem dL_law_1545 : decode cL_law 1545 = .ok (.iadd, 1) := zo_96 (zi_at zh_dL_law_1540_1520 25 rfl)
theorem dL_law_1546 : decode cL_law 1546 = .ok (.iaload, 1) := zo_46 (zi_at zh_dL_law_1540_1520 26 rfl)
theorem dL_law_1547 : decode cL_law 1547 = .ok (.aload_n 0, 1) := zo_42 (zi_at zh_dL_law_1540_1520 27 rfl)
theorem dL_law_1548 : decode cL_law 1548 = .ok (.iload 4, 2) := zo_21 (zi_at zh_dL_law_1540_1520 28 rfl) (zi_at zh_dL_law_1540_1520 29 rfl)
theorem dL_law_1550 : decode cL_law 1550 = .ok (.iconst 2, 1) := zo_5 (zi_at zh_dL_law_1540_1520 30 rfl)
theorem dL_law_1551 : decode cL_law 1551 = .ok (.iadd, 1) := zo_96 (zi_at zh_dL_law_1540_1520 31 rfl)
theorem dL_law_1552 : decode cL_law 1552 = .ok (.iaload, 1) := zo_46 (zi_at zh_dL_law_1540_1520 32 rfl)
theorem dL_law_1553 : decode cL_law 1553 = .ok (.invokevirtual 149, 3) := zo_182 (zi_at zh_dL_law_1540_1520 33 rfl) (zi_at zh_dL_law_1540_1520 34 rfl) (zi_at zh_dL_law_1540_1520 35 rfl) rfl
theorem dL_law_1556 : decode cL_law 1556 = .ok (.pop, 1) := zo_87 (zi_at zh_dL_law_1540_1520 36 rfl)
theorem dL_law_1557 : decode cL_law 1557 = .ok (.aload_n 2, 1) := zo_44 (zi_at zh_dL_law_1540_1520 37 rfl)
theorem dL_law_1558 : decode cL_law 1558 = .ok (.aload_n 0, 1) := zo_42 (zi_at zh_dL_law_1540_1520 38 rfl)
theorem dL_law_1559 : decode cL_law 1559 = .ok (.iload 4, 2) := zo_21 (zi_at zh_dL_law_1540_1520 39 rfl) (zi_at zh_dL_law_1559_1560 0 rfl)
theorem dL_law_1561 : decode cL_law 1561 = .ok (.iconst 1, 1) := zo_4 (zi_at zh_dL_law_1559_1560 1 rfl)
theorem dL_law_1562 : decode cL_law 1562 = .ok (.iadd, 1) := zo_96 (zi_at zh_dL_law_1559_1560 2 rfl)
theorem dL_law_1563 : decode cL_law 1563 = .ok (.iaload, 1) := zo_46 (zi_at zh_dL_law_1559_1560 3 rfl)
theorem dL_law_1564 : decode cL_law 1564 = .ok (.aload_n 0, 1) := zo_42 (zi_at zh_dL_law_1559_1560 4 rfl)
theorem dL_law_1565 : decode cL_law 1565 = .ok (.iload 4, 2) := zo_21 (zi_at zh_dL_law_1559_1560 5 rfl) (zi_at zh_dL_law_1559_1560 6 rfl)
theorem dL_law_1567 : decode cL_law 1567 = .ok (.iconst 2, 1) := zo_5 (zi_at zh_dL_law_1559_1560 7 rfl)
theorem dL_law_1568 : decode cL_law 1568 = .ok (.iadd, 1) := zo_96 (zi_at zh_dL_law_1559_1560 8 rfl)
theorem dL_law_1569 : decode cL_law 1569 = .ok (.iaload, 1) := zo_46 (zi_at zh_dL_law_1559_1560 9 rfl)
theorem dL_law_1570 : decode cL_law 1570 = .ok (.invokevirtual 152, 3) := zo_182 (zi_at zh_dL_law_1559_1560 10 rfl) (zi_at zh_dL_law_1559_1560 11 rfl) (zi_at zh_dL_law_1559_1560 12 rfl) rfl
theorem dL_law_1573 : decode cL_law 1573 = .ok (.pop, 1) := zo_87 (zi_at zh_dL_law_1559_1560 13 rfl)
theorem dL_law_1574 : decode cL_law 1574 = .ok (.goto 285, 3) := zo_167 (zi_at zh_dL_law_1559_1560 14 rfl) (zi_at zh_dL_law_1559_1560 15 rfl) (zi_at zh_dL_law_1559_1560 16 rfl) rfl
theorem dL_law_1577 : decode cL_law 1577 = .ok (.aload_n 1, 1) := zo_43 (zi_at zh_dL_law_1559_1560 17 rfl)
theorem dL_law_1578 : decode cL_law 1578 = .ok (.aload_n 0, 1) := zo_42 (zi_at zh_dL_law_1559_1560 18 rfl)
theorem dL_law_1579 : decode cL_law 1579 = .ok (.iload 4, 2) := zo_21 (zi_at zh_dL_law_1559_1560 19 rfl) (zi_at zh_dL_law_1559_1560 20 rfl)
theorem dL_law_1581 : decode cL_law 1581 = .ok (.iconst 1, 1) := zo_4 (zi_at zh_dL_law_1559_1560 21 rfl)
theorem dL_law_1582 : decode cL_law 1582 = .ok (.iadd, 1) := zo_96 (zi_at zh_dL_law_1559_1560 22 rfl)
theorem dL_law_1583 : decode cL_law 1583 = .ok (.iaload, 1) := zo_46 (zi_at zh_dL_law_1559_1560 23 rfl)
theorem dL_law_1584 : decode cL_law 1584 = .ok (.invokevirtual 153, 3) := zo_182 (zi_at zh_dL_law_1559_1560 24 rfl) (zi_at zh_dL_law_1559_1560 25 rfl) (zi_at zh_dL_law_1559_1560 26 rfl) rfl
theorem dL_law_1587 : decode cL_law 1587 = .ok (.pop, 1) := zo_87 (zi_at zh_dL_law_1559_1560 27 rfl)
theorem dL_law_1588 : decode cL_law 1588 = .ok (.aload_n 2, 1) := zo_44 (zi_at zh_dL_law_1559_1560 28 rfl)
theorem dL_law_1589 : decode cL_law 1589 = .ok (.aload_n 0, 1) := zo_42 (zi_at zh_dL_law_1559_1560 29 rfl)
theorem dL_law_1590 : decode cL_law 1590 = .ok (.iload 4, 2) := zo_21 (zi_at zh_dL_law_1559_1560 30 rfl) (zi_at zh_dL_law_1559_1560 31 rfl)
theorem dL_law_1592 : decode cL_law 1592 = .ok (.iconst 1, 1) := zo_4 (zi_at zh_dL_law_1559_1560 32 rfl)
theorem dL_law_1593 : decode cL_law 1593 = .ok (.iadd, 1) := zo_96 (zi_at zh_dL_law_1559_1560 33 rfl)
theorem dL_law_1594 : decode cL_law 1594 = .ok (.iaload, 1) := zo_46 (zi_at zh_dL_law_1559_1560 34 rfl)
theorem dL_law_1595 : decode cL_law 1595 = .ok (.invokevirtual 156, 3) := zo_182 (zi_at zh_dL_law_1559_1560 35 rfl) (zi_at zh_dL_law_1559_1560 36 rfl) (zi_at zh_dL_law_1559_1560 37 rfl) rfl
theorem dL_law_1598 : decode cL_law 1598 = .ok (.pop, 1) := zo_87 (zi_at zh_dL_law_1559_1560 38 rfl)
theorem dL_law_1599 : decode cL_law 1599 = .ok (.goto 260, 3) := zo_167 (zi_at zh_dL_law_1559_1560 39 rfl) (zi_at zh_dL_law_1599_1600 0 rfl) (zi_at zh_dL_law_1599_1600 1 rfl) rfl
theorem dL_law_1602 : decode cL_law 1602 = .ok (.aload_n 1, 1) := zo_43 (zi_at zh_dL_law_1599_1600 2 rfl)
theorem dL_law_1603 : decode cL_law 1603 = .ok (.aload_n 0, 1) := zo_42 (zi_at zh_dL_law_1599_1600 3 rfl)
theorem dL_law_1604 : decode cL_law 1604 = .ok (.iload 4, 2) := zo_21 (zi_at zh_dL_law_1599_1600 4 rfl) (zi_at zh_dL_law_1599_1600 5 rfl)
theorem dL_law_1606 : decode cL_law 1606 = .ok (.iconst 1, 1) := zo_4 (zi_at zh_dL_law_1599_1600 6 rfl)
theorem dL_law_1607 : decode cL_law 1607 = .ok (.iadd, 1) := zo_96 (zi_at zh_dL_law_1599_1600 7 rfl)
theorem dL_law_1608 : decode cL_law 1608 = .ok (.iaload, 1) := zo_46 (zi_at zh_dL_law_1599_1600 8 rfl)
theorem dL_law_1609 : decode cL_law 1609 = .ok (.aload_n 0, 1) := zo_42 (zi_at zh_dL_law_1599_1600 9 rfl)
theorem dL_law_1610 : decode cL_law 1610 = .ok (.iload 4, 2) := zo_21 (zi_at zh_dL_law_1599_1600 10 rfl) (zi_at zh_dL_law_1599_1600 11 rfl)
theorem dL_law_1612 : decode cL_law 1612 = .ok (.iconst 2, 1) := zo_5 (zi_at zh_dL_law_1599_1600 12 rfl)
theorem dL_law_1613 : decode cL_law 1613 = .ok (.iadd, 1) := zo_96 (zi_at zh_dL_law_1599_1600 13 rfl)
theorem dL_law_1614 : decode cL_law 1614 = .ok (.iaload, 1) := zo_46 (zi_at zh_dL_law_1599_1600 14 rfl)
theorem dL_law_1615 : decode cL_law 1615 = .ok (.invokevirtual 157, 3) := zo_182 (zi_at zh_dL_law_1599_1600 15 rfl) (zi_at zh_dL_law_1599_1600 16 rfl) (zi_at zh_dL_law_1599_1600 17 rfl) rfl
theorem dL_law_1618 : decode cL_law 1618 = .ok (.pop, 1) := zo_87 (zi_at zh_dL_law_1599_1600 18 rfl)
theorem dL_law_1619 : decode cL_law 1619 = .ok (.aload_n 2, 1) := zo_44 (zi_at zh_dL_law_1599_1600 19 rfl)
theorem dL_law_1620 : decode cL_law 1620 = .ok (.aload_n 0, 1) := zo_42 (zi_at zh_dL_law_1599_1600 20 rfl)
theorem dL_law_1621 : decode cL_law 1621 = .ok (.iload 4, 2) := zo_21 (zi_at zh_dL_law_1599_1600 21 rfl) (zi_at zh_dL_law_1599_1600 22 rfl)
theorem dL_law_1623 : decode cL_law 1623 = .ok (.iconst 1, 1) := zo_4 (zi_at zh_dL_law_1599_1600 23 rfl)
theorem dL_law_1624 : decode cL_law 1624 = .ok (.iadd, 1) := zo_96 (zi_at zh_dL_law_1599_1600 24 rfl)
theorem dL_law_1625 : decode cL_law 1625 = .ok (.iaload, 1) := zo_46 (zi_at zh_dL_law_1599_1600 25 rfl)
theorem dL_law_1626 : decode cL_law 1626 = .ok (.aload_n 0, 1) := zo_42 (zi_at zh_dL_law_1599_1600 26 rfl)
theorem dL_law_1627 : decode cL_law 1627 = .ok (.iload 4, 2) := zo_21 (zi_at zh_dL_law_1599_1600 27 rfl) (zi_at zh_dL_law_1599_1600 28 rfl)
theorem dL_law_1629 : decode cL_law 1629 = .ok (.iconst 2, 1) := zo_5 (zi_at zh_dL_law_1599_1600 29 rfl)
theorem dL_law_1630 : decode cL_law 1630 = .ok (.iadd, 1) := zo_96 (zi_at zh_dL_law_1599_1600 30 rfl)
theorem dL_law_1631 : decode cL_law 1631 = .ok (.iaload, 1) := zo_46 (zi_at zh_dL_law_1599_1600 31 rfl)
theorem dL_law_1632 : decode cL_law 1632 = .ok (.invokevirtual 160, 3) := zo_182 (zi_at zh_dL_law_1599_1600 32 rfl) (zi_at zh_dL_law_1599_1600 33 rfl) (zi_at zh_dL_law_1599_1600 34 rfl) rfl
theorem dL_law_1635 : decode cL_law 1635 = .ok (.pop, 1) := zo_87 (zi_at zh_dL_law_1599_1600 35 rfl)
theorem dL_law_1636 : decode cL_law 1636 = .ok (.goto 223, 3) := zo_167 (zi_at zh_dL_law_1599_1600 36 rfl) (zi_at zh_dL_law_1599_1600 37 rfl) (zi_at zh_dL_law_1599_1600 38 rfl) rfl
theorem dL_law_1639 : decode cL_law 1639 = .ok (.aload_n 1, 1) := zo_43 (zi_at zh_dL_law_1599_1600 39 rfl)
theorem dL_law_1640 : decode cL_law 1640 = .ok (.aload_n 0, 1) := zo_42 (zi_at zh_dL_law_1640_1640 0 rfl)
theorem dL_law_1641 : decode cL_law 1641 = .ok (.iload 4, 2) := zo_21 (zi_at zh_dL_law_1640_1640 1 rfl) (zi_at zh_dL_law_1640_1640 2 rfl)
theorem dL_law_1643 : decode cL_law 1643 = .ok (.iconst 1, 1) := zo_4 (zi_at zh_dL_law_1640_1640 3 rfl)
theorem dL_law_1644 : decode cL_law 1644 = .ok (.iadd, 1) := zo_96 (zi_at zh_dL_law_1640_1640 4 rfl)
theorem dL_law_1645 : decode cL_law 1645 = .ok (.iaload, 1) := zo_46 (zi_at zh_dL_law_1640_1640 5 rfl)
theorem dL_law_1646 : decode cL_law 1646 = .ok (.aload_n 0, 1) := zo_42 (zi_at zh_dL_law_1640_1640 6 rfl)
theorem dL_law_1647 : decode cL_law 1647 = .ok (.iload 4, 2) := zo_21 (zi_at zh_dL_law_1640_1640 7 rfl) (zi_at zh_dL_law_1640_1640 8 rfl)
theorem dL_law_1649 : decode cL_law 1649 = .ok (.iconst 2, 1) := zo_5 (zi_at zh_dL_law_1640_1640 9 rfl)
theorem dL_law_1650 : decode cL_law 1650 = .ok (.iadd, 1) := zo_96 (zi_at zh_dL_law_1640_1640 10 rfl)
theorem dL_law_1651 : decode cL_law 1651 = .ok (.iaload, 1) := zo_46 (zi_at zh_dL_law_1640_1640 11 rfl)
theorem dL_law_1652 : decode cL_law 1652 = .ok (.aload_n 0, 1) := zo_42 (zi_at zh_dL_law_1640_1640 12 rfl)
theorem dL_law_1653 : decode cL_law 1653 = .ok (.iload 4, 2) := zo_21 (zi_at zh_dL_law_1640_1640 13 rfl) (zi_at zh_dL_law_1640_1640 14 rfl)
theorem dL_law_1655 : decode cL_law 1655 = .ok (.iconst 3, 1) := zo_6 (zi_at zh_dL_law_1640_1640 15 rfl)
theorem dL_law_1656 : decode cL_law 1656 = .ok (.iadd, 1) := zo_96 (zi_at zh_dL_law_1640_1640 16 rfl)
theorem dL_law_1657 : decode cL_law 1657 = .ok (.iaload, 1) := zo_46 (zi_at zh_dL_law_1640_1640 17 rfl)
theorem dL_law_1658 : decode cL_law 1658 = .ok (.aload_n 0, 1) := zo_42 (zi_at zh_dL_law_1640_1640 18 rfl)
theorem dL_law_1659 : decode cL_law 1659 = .ok (.iload 4, 2) := zo_21 (zi_at zh_dL_law_1640_1640 19 rfl) (zi_at zh_dL_law_1640_1640 20 rfl)
theorem dL_law_1661 : decode cL_law 1661 = .ok (.iconst 4, 1) := zo_7 (zi_at zh_dL_law_1640_1640 21 rfl)
theorem dL_law_1662 : decode cL_law 1662 = .ok (.iadd, 1) := zo_96 (zi_at zh_dL_law_1640_1640 22 rfl)
theorem dL_law_1663 : decode cL_law 1663 = .ok (.iaload, 1) := zo_46 (zi_at zh_dL_law_1640_1640 23 rfl)
theorem dL_law_1664 : decode cL_law 1664 = .ok (.invokevirtual 161, 3) := zo_182 (zi_at zh_dL_law_1640_1640 24 rfl) (zi_at zh_dL_law_1640_1640 25 rfl) (zi_at zh_dL_law_1640_1640 26 rfl) rfl
theorem dL_law_1667 : decode cL_law 1667 = .ok (.pop, 1) := zo_87 (zi_at zh_dL_law_1640_1640 27 rfl)
theorem dL_law_1668 : decode cL_law 1668 = .ok (.aload_n 2, 1) := zo_44 (zi_at zh_dL_law_1640_1640 28 rfl)
theorem dL_law_1669 : decode cL_law 1669 = .ok (.aload_n 0, 1) := zo_42 (zi_at zh_dL_law_1640_1640 29 rfl)
theorem dL_law_1670 : decode cL_law 1670 = .ok (.iload 4, 2) := zo_21 (zi_at zh_dL_law_1640_1640 30 rfl) (zi_at zh_dL_law_1640_1640 31 rfl)
theorem dL_law_1672 : decode cL_law 1672 = .ok (.iconst 1, 1) := zo_4 (zi_at zh_dL_law_1640_1640 32 rfl)
theorem dL_law_1673 : decode cL_law 1673 = .ok (.iadd, 1) := zo_96 (zi_at zh_dL_law_1640_1640 33 rfl)
theorem dL_law_1674 : decode cL_law 1674 = .ok (.iaload, 1) := zo_46 (zi_at zh_dL_law_1640_1640 34 rfl)
theorem dL_law_1675 : decode cL_law 1675 = .ok (.aload_n 0, 1) := zo_42 (zi_at zh_dL_law_1640_1640 35 rfl)
theorem dL_law_1676 : decode cL_law 1676 = .ok (.iload 4, 2) := zo_21 (zi_at zh_dL_law_1640_1640 36 rfl) (zi_at zh_dL_law_1640_1640 37 rfl)
theorem dL_law_1678 : decode cL_law 1678 = .ok (.iconst 2, 1) := zo_5 (zi_at zh_dL_law_1640_1640 38 rfl)
theorem dL_law_1679 : decode cL_law 1679 = .ok (.iadd, 1) := zo_96 (zi_at zh_dL_law_1640_1640 39 rfl)
theorem dL_law_1680 : decode cL_law 1680 = .ok (.iaload, 1) := zo_46 (zi_at zh_dL_law_1680_1680 0 rfl)
theorem dL_law_1681 : decode cL_law 1681 = .ok (.aload_n 0, 1) := zo_42 (zi_at zh_dL_law_1680_1680 1 rfl)
theorem dL_law_1682 : decode cL_law 1682 = .ok (.iload 4, 2) := zo_21 (zi_at zh_dL_law_1680_1680 2 rfl) (zi_at zh_dL_law_1680_1680 3 rfl)
theorem dL_law_1684 : decode cL_law 1684 = .ok (.iconst 3, 1) := zo_6 (zi_at zh_dL_law_1680_1680 4 rfl)
theorem dL_law_1685 : decode cL_law 1685 = .ok (.iadd, 1) := zo_96 (zi_at zh_dL_law_1680_1680 5 rfl)
theorem dL_law_1686 : decode cL_law 1686 = .ok (.iaload, 1) := zo_46 (zi_at zh_dL_law_1680_1680 6 rfl)
theorem dL_law_1687 : decode cL_law 1687 = .ok (.aload_n 0, 1) := zo_42 (zi_at zh_dL_law_1680_1680 7 rfl)
theorem dL_law_1688 : decode cL_law 1688 = .ok (.iload 4, 2) := zo_21 (zi_at zh_dL_law_1680_1680 8 rfl) (zi_at zh_dL_law_1680_1680 9 rfl)
theorem dL_law_1690 : decode cL_law 1690 = .ok (.iconst 4, 1) := zo_7 (zi_at zh_dL_law_1680_1680 10 rfl)
theorem dL_law_1691 : decode cL_law 1691 = .ok (.iadd, 1) := zo_96 (zi_at zh_dL_law_1680_1680 11 rfl)
theorem dL_law_1692 : decode cL_law 1692 = .ok (.iaload, 1) := zo_46 (zi_at zh_dL_law_1680_1680 12 rfl)
theorem dL_law_1693 : decode cL_law 1693 = .ok (.invokevirtual 164, 3) := zo_182 (zi_at zh_dL_law_1680_1680 13 rfl) (zi_at zh_dL_law_1680_1680 14 rfl) (zi_at zh_dL_law_1680_1680 15 rfl) rfl
theorem dL_law_1696 : decode cL_law 1696 = .ok (.pop, 1) := zo_87 (zi_at zh_dL_law_1680_1680 16 rfl)
theorem dL_law_1697 : decode cL_law 1697 = .ok (.goto 162, 3) := zo_167 (zi_at zh_dL_law_1680_1680 17 rfl) (zi_at zh_dL_law_1680_1680 18 rfl) (zi_at zh_dL_law_1680_1680 19 rfl) rfl
theorem dL_law_1700 : decode cL_law 1700 = .ok (.aload_n 1, 1) := zo_43 (zi_at zh_dL_law_1680_1680 20 rfl)
theorem dL_law_1701 : decode cL_law 1701 = .ok (.aload_n 0, 1) := zo_42 (zi_at zh_dL_law_1680_1680 21 rfl)
theorem dL_law_1702 : decode cL_law 1702 = .ok (.iload 4, 2) := zo_21 (zi_at zh_dL_law_1680_1680 22 rfl) (zi_at zh_dL_law_1680_1680 23 rfl)
theorem dL_law_1704 : decode cL_law 1704 = .ok (.iconst 1, 1) := zo_4 (zi_at zh_dL_law_1680_1680 24 rfl)
theorem dL_law_1705 : decode cL_law 1705 = .ok (.iadd, 1) := zo_96 (zi_at zh_dL_law_1680_1680 25 rfl)
theorem dL_law_1706 : decode cL_law 1706 = .ok (.iaload, 1) := zo_46 (zi_at zh_dL_law_1680_1680 26 rfl)
theorem dL_law_1707 : decode cL_law 1707 = .ok (.invokevirtual 165, 3) := zo_182 (zi_at zh_dL_law_1680_1680 27 rfl) (zi_at zh_dL_law_1680_1680 28 rfl) (zi_at zh_dL_law_1680_1680 29 rfl) rfl
theorem dL_law_1710 : decode cL_law 1710 = .ok (.pop, 1) := zo_87 (zi_at zh_dL_law_1680_1680 30 rfl)
theorem dL_law_1711 : decode cL_law 1711 = .ok (.aload_n 2, 1) := zo_44 (zi_at zh_dL_law_1680_1680 31 rfl)
theorem dL_law_1712 : decode cL_law 1712 = .ok (.aload_n 0, 1) := zo_42 (zi_at zh_dL_law_1680_1680 32 rfl)
theorem dL_law_1713 : decode cL_law 1713 = .ok (.iload 4, 2) := zo_21 (zi_at zh_dL_law_1680_1680 33 rfl) (zi_at zh_dL_law_1680_1680 34 rfl)
theorem dL_law_1715 : decode cL_law 1715 = .ok (.iconst 1, 1) := zo_4 (zi_at zh_dL_law_1680_1680 35 rfl)
theorem dL_law_1716 : decode cL_law 1716 = .ok (.iadd, 1) := zo_96 (zi_at zh_dL_law_1680_1680 36 rfl)
theorem dL_law_1717 : decode cL_law 1717 = .ok (.iaload, 1) := zo_46 (zi_at zh_dL_law_1680_1680 37 rfl)
theorem dL_law_1718 : decode cL_law 1718 = .ok (.invokevirtual 168, 3) := zo_182 (zi_at zh_dL_law_1680_1680 38 rfl) (zi_at zh_dL_law_1680_1680 39 rfl) (zi_at zh_dL_law_1718_1720 0 rfl) rfl
theorem dL_law_1721 : decode cL_law 1721 = .ok (.pop, 1) := zo_87 (zi_at zh_dL_law_1718_1720 1 rfl)
theorem dL_law_1722 : decode cL_law 1722 = .ok (.goto 137, 3) := zo_167 (zi_at zh_dL_law_1718_1720 2 rfl) (zi_at zh_dL_law_1718_1720 3 rfl) (zi_at zh_dL_law_1718_1720 4 rfl) rfl
theorem dL_law_1725 : decode cL_law 1725 = .ok (.aload_n 1, 1) := zo_43 (zi_at zh_dL_law_1718_1720 5 rfl)
theorem dL_law_1726 : decode cL_law 1726 = .ok (.aload_n 0, 1) := zo_42 (zi_at zh_dL_law_1718_1720 6 rfl)
theorem dL_law_1727 : decode cL_law 1727 = .ok (.iload 4, 2) := zo_21 (zi_at zh_dL_law_1718_1720 7 rfl) (zi_at zh_dL_law_1718_1720 8 rfl)
theorem dL_law_1729 : decode cL_law 1729 = .ok (.iconst 1, 1) := zo_4 (zi_at zh_dL_law_1718_1720 9 rfl)
theorem dL_law_1730 : decode cL_law 1730 = .ok (.iadd, 1) := zo_96 (zi_at zh_dL_law_1718_1720 10 rfl)
theorem dL_law_1731 : decode cL_law 1731 = .ok (.iaload, 1) := zo_46 (zi_at zh_dL_law_1718_1720 11 rfl)
theorem dL_law_1732 : decode cL_law 1732 = .ok (.aload_n 0, 1) := zo_42 (zi_at zh_dL_law_1718_1720 12 rfl)
theorem dL_law_1733 : decode cL_law 1733 = .ok (.iload 4, 2) := zo_21 (zi_at zh_dL_law_1718_1720 13 rfl) (zi_at zh_dL_law_1718_1720 14 rfl)
theorem dL_law_1735 : decode cL_law 1735 = .ok (.iconst 2, 1) := zo_5 (zi_at zh_dL_law_1718_1720 15 rfl)
theorem dL_law_1736 : decode cL_law 1736 = .ok (.iadd, 1) := zo_96 (zi_at zh_dL_law_1718_1720 16 rfl)
theorem dL_law_1737 : decode cL_law 1737 = .ok (.iaload, 1) := zo_46 (zi_at zh_dL_law_1718_1720 17 rfl)
theorem dL_law_1738 : decode cL_law 1738 = .ok (.i2l, 1) := zo_133 (zi_at zh_dL_law_1718_1720 18 rfl)
theorem dL_law_1739 : decode cL_law 1739 = .ok (.bipush 32, 2) := zo_16 (zi_at zh_dL_law_1718_1720 19 rfl) (zi_at zh_dL_law_1718_1720 20 rfl) rfl
theorem dL_law_1741 : decode cL_law 1741 = .ok (.lshl, 1) := zo_121 (zi_at zh_dL_law_1718_1720 21 rfl)
theorem dL_law_1742 : decode cL_law 1742 = .ok (.aload_n 0, 1) := zo_42 (zi_at zh_dL_law_1718_1720 22 rfl)
theorem dL_law_1743 : decode cL_law 1743 = .ok (.iload 4, 2) := zo_21 (zi_at zh_dL_law_1718_1720 23 rfl) (zi_at zh_dL_law_1718_1720 24 rfl)
theorem dL_law_1745 : decode cL_law 1745 = .ok (.iconst 3, 1) := zo_6 (zi_at zh_dL_law_1718_1720 25 rfl)
theorem dL_law_1746 : decode cL_law 1746 = .ok (.iadd, 1) := zo_96 (zi_at zh_dL_law_1718_1720 26 rfl)
theorem dL_law_1747 : decode cL_law 1747 = .ok (.iaload, 1) := zo_46 (zi_at zh_dL_law_1718_1720 27 rfl)
theorem dL_law_1748 : decode cL_law 1748 = .ok (.i2l, 1) := zo_133 (zi_at zh_dL_law_1718_1720 28 rfl)
theorem dL_law_1749 : decode cL_law 1749 = .ok (.ldc2_w 169, 3) := zo_20 (zi_at zh_dL_law_1718_1720 29 rfl) (zi_at zh_dL_law_1718_1720 30 rfl) (zi_at zh_dL_law_1718_1720 31 rfl) rfl
theorem dL_law_1752 : decode cL_law 1752 = .ok (.land, 1) := zo_127 (zi_at zh_dL_law_1718_1720 32 rfl)
theorem dL_law_1753 : decode cL_law 1753 = .ok (.lor, 1) := zo_129 (zi_at zh_dL_law_1718_1720 33 rfl)
theorem dL_law_1754 : decode cL_law 1754 = .ok (.invokevirtual 171, 3) := zo_182 (zi_at zh_dL_law_1718_1720 34 rfl) (zi_at zh_dL_law_1718_1720 35 rfl) (zi_at zh_dL_law_1718_1720 36 rfl) rfl
theorem dL_law_1757 : decode cL_law 1757 = .ok (.pop, 1) := zo_87 (zi_at zh_dL_law_1718_1720 37 rfl)
theorem dL_law_1758 : decode cL_law 1758 = .ok (.aload_n 2, 1) := zo_44 (zi_at zh_dL_law_1718_1720 38 rfl)
theorem dL_law_1759 : decode cL_law 1759 = .ok (.aload_n 0, 1) := zo_42 (zi_at zh_dL_law_1718_1720 39 rfl)
theorem dL_law_1760 : decode cL_law 1760 = .ok (.iload 4, 2) := zo_21 (zi_at zh_dL_law_1760_1760 0 rfl) (zi_at zh_dL_law_1760_1760 1 rfl)
theorem dL_law_1762 : decode cL_law 1762 = .ok (.iconst 1, 1) := zo_4 (zi_at zh_dL_law_1760_1760 2 rfl)
theorem dL_law_1763 : decode cL_law 1763 = .ok (.iadd, 1) := zo_96 (zi_at zh_dL_law_1760_1760 3 rfl)
theorem dL_law_1764 : decode cL_law 1764 = .ok (.iaload, 1) := zo_46 (zi_at zh_dL_law_1760_1760 4 rfl)
theorem dL_law_1765 : decode cL_law 1765 = .ok (.aload_n 0, 1) := zo_42 (zi_at zh_dL_law_1760_1760 5 rfl)
theorem dL_law_1766 : decode cL_law 1766 = .ok (.iload 4, 2) := zo_21 (zi_at zh_dL_law_1760_1760 6 rfl) (zi_at zh_dL_law_1760_1760 7 rfl)
theorem dL_law_1768 : decode cL_law 1768 = .ok (.iconst 2, 1) := zo_5 (zi_at zh_dL_law_1760_1760 8 rfl)
theorem dL_law_1769 : decode cL_law 1769 = .ok (.iadd, 1) := zo_96 (zi_at zh_dL_law_1760_1760 9 rfl)
theorem dL_law_1770 : decode cL_law 1770 = .ok (.iaload, 1) := zo_46 (zi_at zh_dL_law_1760_1760 10 rfl)
theorem dL_law_1771 : decode cL_law 1771 = .ok (.i2l, 1) := zo_133 (zi_at zh_dL_law_1760_1760 11 rfl)
theorem dL_law_1772 : decode cL_law 1772 = .ok (.bipush 32, 2) := zo_16 (zi_at zh_dL_law_1760_1760 12 rfl) (zi_at zh_dL_law_1760_1760 13 rfl) rfl
theorem dL_law_1774 : decode cL_law 1774 = .ok (.lshl, 1) := zo_121 (zi_at zh_dL_law_1760_1760 14 rfl)
theorem dL_law_1775 : decode cL_law 1775 = .ok (.aload_n 0, 1) := zo_42 (zi_at zh_dL_law_1760_1760 15 rfl)
theorem dL_law_1776 : decode cL_law 1776 = .ok (.iload 4, 2) := zo_21 (zi_at zh_dL_law_1760_1760 16 rfl) (zi_at zh_dL_law_1760_1760 17 rfl)
theorem dL_law_1778 : decode cL_law 1778 = .ok (.iconst 3, 1) := zo_6 (zi_at zh_dL_law_1760_1760 18 rfl)
theorem dL_law_1779 : decode cL_law 1779 = .ok (.iadd, 1) := zo_96 (zi_at zh_dL_law_1760_1760 19 rfl)
theorem dL_law_1780 : decode cL_law 1780 = .ok (.iaload, 1) := zo_46 (zi_at zh_dL_law_1760_1760 20 rfl)
theorem dL_law_1781 : decode cL_law 1781 = .ok (.i2l, 1) := zo_133 (zi_at zh_dL_law_1760_1760 21 rfl)
theorem dL_law_1782 : decode cL_law 1782 = .ok (.ldc2_w 169, 3) := zo_20 (zi_at zh_dL_law_1760_1760 22 rfl) (zi_at zh_dL_law_1760_1760 23 rfl) (zi_at zh_dL_law_1760_1760 24 rfl) rfl
theorem dL_law_1785 : decode cL_law 1785 = .ok (.land, 1) := zo_127 (zi_at zh_dL_law_1760_1760 25 rfl)
theorem dL_law_1786 : decode cL_law 1786 = .ok (.lor, 1) := zo_129 (zi_at zh_dL_law_1760_1760 26 rfl)
theorem dL_law_1787 : decode cL_law 1787 = .ok (.invokevirtual 175, 3) := zo_182 (zi_at zh_dL_law_1760_1760 27 rfl) (zi_at zh_dL_law_1760_1760 28 rfl) (zi_at zh_dL_law_1760_1760 29 rfl) rfl
theorem dL_law_1790 : decode cL_law 1790 = .ok (.pop, 1) := zo_87 (zi_at zh_dL_law_1760_1760 30 rfl)
theorem dL_law_1791 : decode cL_law 1791 = .ok (.goto 68, 3) := zo_167 (zi_at zh_dL_law_1760_1760 31 rfl) (zi_at zh_dL_law_1760_1760 32 rfl) (zi_at zh_dL_law_1760_1760 33 rfl) rfl
theorem dL_law_1794 : decode cL_law 1794 = .ok (.aload_n 1, 1) := zo_43 (zi_at zh_dL_law_1760_1760 34 rfl)
theorem dL_law_1795 : decode cL_law 1795 = .ok (.aload_n 0, 1) := zo_42 (zi_at zh_dL_law_1760_1760 35 rfl)
theorem dL_law_1796 : decode cL_law 1796 = .ok (.iload 4, 2) := zo_21 (zi_at zh_dL_law_1760_1760 36 rfl) (zi_at zh_dL_law_1760_1760 37 rfl)
theorem dL_law_1798 : decode cL_law 1798 = .ok (.iconst 1, 1) := zo_4 (zi_at zh_dL_law_1760_1760 38 rfl)
theorem dL_law_1799 : decode cL_law 1799 = .ok (.iadd, 1) := zo_96 (zi_at zh_dL_law_1760_1760 39 rfl)
theorem dL_law_1800 : decode cL_law 1800 = .ok (.iaload, 1) := zo_46 (zi_at zh_dL_law_1800_1800 0 rfl)
theorem dL_law_1801 : decode cL_law 1801 = .ok (.aload_n 0, 1) := zo_42 (zi_at zh_dL_law_1800_1800 1 rfl)
theorem dL_law_1802 : decode cL_law 1802 = .ok (.iload 4, 2) := zo_21 (zi_at zh_dL_law_1800_1800 2 rfl) (zi_at zh_dL_law_1800_1800 3 rfl)
theorem dL_law_1804 : decode cL_law 1804 = .ok (.iconst 2, 1) := zo_5 (zi_at zh_dL_law_1800_1800 4 rfl)
theorem dL_law_1805 : decode cL_law 1805 = .ok (.iadd, 1) := zo_96 (zi_at zh_dL_law_1800_1800 5 rfl)
theorem dL_law_1806 : decode cL_law 1806 = .ok (.iaload, 1) := zo_46 (zi_at zh_dL_law_1800_1800 6 rfl)
theorem dL_law_1807 : decode cL_law 1807 = .ok (.aload_n 3, 1) := zo_45 (zi_at zh_dL_law_1800_1800 7 rfl)
theorem dL_law_1808 : decode cL_law 1808 = .ok (.invokestatic 176, 3) := zo_184 (zi_at zh_dL_law_1800_1800 8 rfl) (zi_at zh_dL_law_1800_1800 9 rfl) (zi_at zh_dL_law_1800_1800 10 rfl) rfl
theorem dL_law_1811 : decode cL_law 1811 = .ok (.istore 5, 2) := zo_54 (zi_at zh_dL_law_1800_1800 11 rfl) (zi_at zh_dL_law_1800_1800 12 rfl)
theorem dL_law_1813 : decode cL_law 1813 = .ok (.aload_n 2, 1) := zo_44 (zi_at zh_dL_law_1800_1800 13 rfl)
theorem dL_law_1814 : decode cL_law 1814 = .ok (.aload_n 0, 1) := zo_42 (zi_at zh_dL_law_1800_1800 14 rfl)
theorem dL_law_1815 : decode cL_law 1815 = .ok (.iload 4, 2) := zo_21 (zi_at zh_dL_law_1800_1800 15 rfl) (zi_at zh_dL_law_1800_1800 16 rfl)
theorem dL_law_1817 : decode cL_law 1817 = .ok (.iconst 1, 1) := zo_4 (zi_at zh_dL_law_1800_1800 17 rfl)
theorem dL_law_1818 : decode cL_law 1818 = .ok (.iadd, 1) := zo_96 (zi_at zh_dL_law_1800_1800 18 rfl)
theorem dL_law_1819 : decode cL_law 1819 = .ok (.iaload, 1) := zo_46 (zi_at zh_dL_law_1800_1800 19 rfl)
theorem dL_law_1820 : decode cL_law 1820 = .ok (.aload_n 0, 1) := zo_42 (zi_at zh_dL_law_1800_1800 20 rfl)
theorem dL_law_1821 : decode cL_law 1821 = .ok (.iload 4, 2) := zo_21 (zi_at zh_dL_law_1800_1800 21 rfl) (zi_at zh_dL_law_1800_1800 22 rfl)
theorem dL_law_1823 : decode cL_law 1823 = .ok (.iconst 2, 1) := zo_5 (zi_at zh_dL_law_1800_1800 23 rfl)
theorem dL_law_1824 : decode cL_law 1824 = .ok (.iadd, 1) := zo_96 (zi_at zh_dL_law_1800_1800 24 rfl)
theorem dL_law_1825 : decode cL_law 1825 = .ok (.iaload, 1) := zo_46 (zi_at zh_dL_law_1800_1800 25 rfl)
theorem dL_law_1826 : decode cL_law 1826 = .ok (.invokevirtual 181, 3) := zo_182 (zi_at zh_dL_law_1800_1800 26 rfl) (zi_at zh_dL_law_1800_1800 27 rfl) (zi_at zh_dL_law_1800_1800 28 rfl) rfl
theorem dL_law_1829 : decode cL_law 1829 = .ok (.istore 6, 2) := zo_54 (zi_at zh_dL_law_1800_1800 29 rfl) (zi_at zh_dL_law_1800_1800 30 rfl)
theorem dL_law_1831 : decode cL_law 1831 = .ok (.goto 28, 3) := zo_167 (zi_at zh_dL_law_1800_1800 31 rfl) (zi_at zh_dL_law_1800_1800 32 rfl) (zi_at zh_dL_law_1800_1800 33 rfl) rfl
theorem dL_law_1834 : decode cL_law 1834 = .ok (.aload_n 1, 1) := zo_43 (zi_at zh_dL_law_1800_1800 34 rfl)
theorem dL_law_1835 : decode cL_law 1835 = .ok (.aload_n 0, 1) := zo_42 (zi_at zh_dL_law_1800_1800 35 rfl)
theorem dL_law_1836 : decode cL_law 1836 = .ok (.iload 4, 2) := zo_21 (zi_at zh_dL_law_1800_1800 36 rfl) (zi_at zh_dL_law_1800_1800 37 rfl)
theorem dL_law_1838 : decode cL_law 1838 = .ok (.iconst 1, 1) := zo_4 (zi_at zh_dL_law_1800_1800 38 rfl)
theorem dL_law_1839 : decode cL_law 1839 = .ok (.iadd, 1) := zo_96 (zi_at zh_dL_law_1800_1800 39 rfl)
theorem dL_law_1840 : decode cL_law 1840 = .ok (.iaload, 1) := zo_46 (zi_at zh_dL_law_1840_1840 0 rfl)
theorem dL_law_1841 : decode cL_law 1841 = .ok (.invokevirtual 182, 3) := zo_182 (zi_at zh_dL_law_1840_1840 1 rfl) (zi_at zh_dL_law_1840_1840 2 rfl) (zi_at zh_dL_law_1840_1840 3 rfl) rfl
theorem dL_law_1844 : decode cL_law 1844 = .ok (.pop, 1) := zo_87 (zi_at zh_dL_law_1840_1840 4 rfl)
theorem dL_law_1845 : decode cL_law 1845 = .ok (.aload_n 2, 1) := zo_44 (zi_at zh_dL_law_1840_1840 5 rfl)
theorem dL_law_1846 : decode cL_law 1846 = .ok (.aload_n 0, 1) := zo_42 (zi_at zh_dL_law_1840_1840 6 rfl)
theorem dL_law_1847 : decode cL_law 1847 = .ok (.iload 4, 2) := zo_21 (zi_at zh_dL_law_1840_1840 7 rfl) (zi_at zh_dL_law_1840_1840 8 rfl)
theorem dL_law_1849 : decode cL_law 1849 = .ok (.iconst 1, 1) := zo_4 (zi_at zh_dL_law_1840_1840 9 rfl)
theorem dL_law_1850 : decode cL_law 1850 = .ok (.iadd, 1) := zo_96 (zi_at zh_dL_law_1840_1840 10 rfl)
theorem dL_law_1851 : decode cL_law 1851 = .ok (.iaload, 1) := zo_46 (zi_at zh_dL_law_1840_1840 11 rfl)
theorem dL_law_1852 : decode cL_law 1852 = .ok (.invokevirtual 185, 3) := zo_182 (zi_at zh_dL_law_1840_1840 12 rfl) (zi_at zh_dL_law_1840_1840 13 rfl) (zi_at zh_dL_law_1840_1840 14 rfl) rfl
theorem dL_law_1855 : decode cL_law 1855 = .ok (.pop, 1) := zo_87 (zi_at zh_dL_law_1840_1840 15 rfl)
theorem dL_law_1856 : decode cL_law 1856 = .ok (.goto 3, 3) := zo_167 (zi_at zh_dL_law_1840_1840 16 rfl) (zi_at zh_dL_law_1840_1840 17 rfl) (zi_at zh_dL_law_1840_1840 18 rfl) rfl
theorem hz_yX12_middle_2 : yX12_middle.cls ≠ "java/lang/invoke/MethodHandle" ∧ yX12_middle.cls ≠ "java/lang/invoke/VarHandle" ∧ (parseMethodDescriptor yX12_middle.desc).map (fun d => d.parameters.length) = some 2 := by decide +kernel
theorem hz_yX13_middle_2 : yX13_middle.cls ≠ "java/lang/invoke/MethodHandle" ∧ yX13_middle.cls ≠ "java/lang/invoke/VarHandle" ∧ (parseMethodDescriptor yX13_middle.desc).map (fun d => d.parameters.length) = some 2 := by decide +kernel
theorem hz_yX12_fit_1 : yX12_fit.cls ≠ "java/lang/invoke/MethodHandle" ∧ yX12_fit.cls ≠ "java/lang/invoke/VarHandle" ∧ (parseMethodDescriptor yX12_fit.desc).map (fun d => d.parameters.length) = some 1 := by decide +kernel
theorem hz_yX13_fit_1 : yX13_fit.cls ≠ "java/lang/invoke/MethodHandle" ∧ yX13_fit.cls ≠ "java/lang/invoke/VarHandle" ∧ (parseMethodDescriptor yX13_fit.desc).map (fun d => d.parameters.length) = some 1 := by decide +kernel
theorem hz_yX12_suspect_2 : yX12_suspect.cls ≠ "java/lang/invoke/MethodHandle" ∧ yX12_suspect.cls ≠ "java/lang/invoke/VarHandle" ∧ (parseMethodDescriptor yX12_suspect.desc).map (fun d => d.parameters.length) = some 2 := by decide +kernel
theorem hz_yX13_suspect_2 : yX13_suspect.cls ≠ "java/lang/invoke/MethodHandle" ∧ yX13_suspect.cls ≠ "java/lang/invoke/VarHandle" ∧ (parseMethodDescriptor yX13_suspect.desc).map (fun d => d.parameters.length) = some 2 := by decide +kernel
theorem hz_yX12_start_4 : yX12_start.cls ≠ "java/lang/invoke/MethodHandle" ∧ yX12_start.cls ≠ "java/lang/invoke/VarHandle" ∧ (parseMethodDescriptor yX12_start.desc).map (fun d => d.parameters.length) = some 4 := by decide +kernel
theorem hz_yX13_start_4 : yX13_start.cls ≠ "java/lang/invoke/MethodHandle" ∧ yX13_start.cls ≠ "java/lang/invoke/VarHandle" ∧ (parseMethodDescriptor yX13_start.desc).map (fun d => d.parameters.length) = some 4 := by decide +kernel
theorem hz_yX12_lean_1 : yX12_lean.cls ≠ "java/lang/invoke/MethodHandle" ∧ yX12_lean.cls ≠ "java/lang/invoke/VarHandle" ∧ (parseMethodDescriptor yX12_lean.desc).map (fun d => d.parameters.length) = some 1 := by decide +kernel
theorem hz_yX13_lean_1 : yX13_lean.cls ≠ "java/lang/invoke/MethodHandle" ∧ yX13_lean.cls ≠ "java/lang/invoke/VarHandle" ∧ (parseMethodDescriptor yX13_lean.desc).map (fun d => d.parameters.length) = some 1 := by decide +kernel
theorem hz_yX12_draw_2 : yX12_draw.cls ≠ "java/lang/invoke/MethodHandle" ∧ yX12_draw.cls ≠ "java/lang/invoke/VarHandle" ∧ (parseMethodDescriptor yX12_draw.desc).map (fun d => d.parameters.length) = some 2 := by decide +kernel
theorem hz_yX13_draw_2 : yX13_draw.cls ≠ "java/lang/invoke/MethodHandle" ∧ yX13_draw.cls ≠ "java/lang/invoke/VarHandle" ∧ (parseMethodDescriptor yX13_draw.desc).map (fun d => d.parameters.length) = some 2 := by decide +kernel
theorem hz_yX13_told_2 : yX13_told.cls ≠ "java/lang/invoke/MethodHandle" ∧ yX13_told.cls ≠ "java/lang/invoke/VarHandle" ∧ (parseMethodDescriptor yX13_told.desc).map (fun d => d.parameters.length) = some 2 := by decide +kernel
theorem hz_yX12_count_1 : yX12_count.cls ≠ "java/lang/invoke/MethodHandle" ∧ yX12_count.cls ≠ "java/lang/invoke/VarHandle" ∧ (parseMethodDescriptor yX12_count.desc).map (fun d => d.parameters.length) = some 1 := by decide +kernel
theorem hz_yX13_count_1 : yX13_count.cls ≠ "java/lang/invoke/MethodHandle" ∧ yX13_count.cls ≠ "java/lang/invoke/VarHandle" ∧ (parseMethodDescriptor yX13_count.desc).map (fun d => d.parameters.length) = some 1 := by decide +kernel

set_option maxHeartbeats 4000000 in
set_option maxRecDepth 100000 in
theorem law_case_30 {p : Program} {e : Env} {s : State} {m : MethodId} {below : List Frame} {meth : Method} {c : Code} (l : Launch) {b L : Nat} {xs : Nat → Int32} (hL : L ≤ 4096) (C0 : lw_At p s m meth c b L xs) {A : Nat → Prop} {ed : Nat} {dC : Nat → ClassId} {dI : Nat → Nat → Nat} {cT : Nat → ClassId} {cL : ClassId} (F : FX l s A ed dC dI cT cL) {x ou : Nat} {am cf ad : Nat → Nat} {E EM : Nat → va_E} {f : Nat → Int64} {H : Heap} {locs : List Loc} (V : INV s A ed dC dI cT cL x ou am cf ad E EM f H locs) (hR : REL15 cf E EM) {i : Int32} (hi0 : 0 ≤ i.toInt) (hi8 : i.toInt + 8 ≤ (L : Int)) {cn sn : Nat} (hcn : cn + 7 ≤ 601024) (hsn : sn + 3300 ≤ 7293034) (ls : Array Slot) (hl : lv_has ls 7 [(0, .ref b), (1, .ref x), (2, .ref (am 0)), (3, .ref ou), (4, .int i)]) (tail : (∀ (cf ad : Nat → Nat) (E EM : Nat → va_E) (f : Nat → Int64) (H : Heap) (locs : List Loc) (ls : Array Slot), INV s A ed dC dI cT cL x ou am cf ad E EM f H locs → REL15 cf E EM → lv_has ls 7 [(0, .ref b), (1, .ref x), (2, .ref (am 0)), (3, .ref ou), (4, .int i)] → W p l e room_1 s m #[Value.ref b] below meth c H locs (cn + 7) (sn + 3300) (lw_Z below #[Value.ref b] s) (F0 m 1859 ls []))) : W p l e room_1 s m #[Value.ref b] below meth c H locs cn sn (lw_Z below #[Value.ref b] s) (F0 m 1540 ls []) := by
  obtain ⟨hx, hb, hr, hml, hown, hts0, hX, hbl, hlocks, hgv⟩ := id C0
  have hts := fun w (h : w ∈ v_law) => hts0 w (v_law_in w h)
  have hbA : ¬ A b := F.hnA b hbl
  obtain rfl := V.hx
  obtain ⟨⟨⟨⟨⟨hR, hT⟩, hU⟩, hG⟩, hB⟩, hRS⟩ := hR
  refine lv_aload_n hx hb dL_law_1540 rfl (lv_at hl 1 rfl) ?_
  refine lv_aload_n hx hb dL_law_1541 rfl (lv_at hl 0 rfl) ?_
  refine lv_iload hx hb dL_law_1542 (lv_at hl 4 rfl) ?_
  refine lv_iconst (v := 1) hx hb dL_law_1544 (by decide) ?_
  refine lv_iadd hx hb dL_law_1545 ?_
  refine va_sld hx hb hX hbl hbA V.hS (law_in (k := 1) hi0 hi8 hL (by decide) rfl) dL_law_1546 ?_
  refine lv_aload_n hx hb dL_law_1547 rfl (lv_at hl 0 rfl) ?_
  refine lv_iload hx hb dL_law_1548 (lv_at hl 4 rfl) ?_
  refine lv_iconst (v := 2) hx hb dL_law_1550 (by decide) ?_
  refine lv_iadd hx hb dL_law_1551 ?_
  refine va_sld hx hb hX hbl hbA V.hS (law_in (k := 2) hi0 hi8 hL (by decide) rfl) dL_law_1552 ?_
  have hI0 := V.hI
  have hC0 := V.hC
  have hM0 := V.hM
  have bn : (0 : Int) ≤ (xi (E 1) 0).toInt ∧ (xi (E 1) 0).toInt ≤ 400 := hI0.iv 1 (mF 1 rfl) rfl (Nat.le_of_ble_eq_true rfl) rfl
  have bb : (0 : Int) ≤ (xi (E 1) 1).toInt ∧ (xi (E 1) 1).toInt ≤ 16 := hI0.iv 1 (mF 1 rfl) rfl (Nat.le_of_ble_eq_true rfl) rfl
  obtain ⟨⟨k0, k1, k2, k3, k4, k5⟩, -⟩ := id hC0
  refine lC F V (fun r u h => h.1) (va_runV (As := [.int (xs (i + 1).toNatClampNeg), .int (xs (i + 2).toNatClampNeg)]) (rest := []) ⟨hx, hb, hml, hown, hts⟩ (q_u_middleX l dC dI cT cf V.hC ad E H.size (xs (i + 1).toNatClampNeg) (xs (i + 2).toNatClampNeg) V.hI hU.1) (cwV 2 hts (gl_V (al_4 _ (zs16 (zs4 (zs0)))) (al_4 _ (zs16 (zs4 (zs1 (zs0))))) (al_4 _ (zs16 (zs4 (zs1 (zs1 (zs0)))))) (vl_A _ (in_4 _ (zs16 (zs4 (zs1 (zs1 (zs1 (zs0)))))))) (vl_A _ (in_19 _ (zs16 (zs16 (zs4 (zs1 (zs1 (zs0))))))))) rfl rfl rfl ⟨rfl, hz_yX12_middle_2⟩ ⟨Nat.le_of_ble_eq_true rfl, Nat.le_of_ble_eq_true rfl⟩) ⟨HWL_bl, va_recv F.kc V.cp (ci := 13) (q0 := posL 0 (LC cf)) rfl (V.hI.ob 0 (mF 0 rfl) rfl), HWL_wi V.cp F.kc V.dc V.hS F.hA (V.ec F)⟩ rfl rfl hl.1 rfl (lv_room (Nat.le_of_ble_eq_true rfl)) dL_law_1553 ⟨by show cn + 0 ≤ 601024; omega, by show sn + 0 ≤ 7293034; omega⟩) (fun r1 E1 H locs hw1 V => ?_)
  have hcf : ∀ j, j < 6 → j ≠ 1 → cf j = cf j := fun _ _ _ => rfl
  have k6 : xi (E1 1) 0 = xi (E 1) 0 := xik hw1.2.1 (o := 1) (j := 0) (by first | rfl | (simp [wl]; done) | (simp [wl]; omega))
  have k7 : xi (E1 1) 1 = xi (E 1) 1 := xik hw1.2.1 (o := 1) (j := 1) (by first | rfl | (simp [wl]; done) | (simp [wl]; omega))
  have k8 : xi (E1 1) 2 = xi (E 1) 2 := xik hw1.2.1 (o := 1) (j := 2) (by first | rfl | (simp [wl]; done) | (simp [wl]; omega))
  have hp : PK X0 cf E E1 := fun t i j _ _ _ _ => xik hw1.2.1 (by first | exact wl_p rfl rfl (by omega) | (simp [wl]; done) | (simp [wl]; omega))
  refine lv_pop hx hb dL_law_1556 rfl ?_
  refine lv_aload_n hx hb dL_law_1557 rfl (lv_at hl 2 rfl) ?_
  refine lv_aload_n hx hb dL_law_1558 rfl (lv_at hl 0 rfl) ?_
  refine lv_iload hx hb dL_law_1559 (lv_at hl 4 rfl) ?_
  refine lv_iconst (v := 1) hx hb dL_law_1561 (by decide) ?_
  refine lv_iadd hx hb dL_law_1562 ?_
  refine va_sld hx hb hX hbl hbA V.hS (law_in (k := 1) hi0 hi8 hL (by decide) rfl) dL_law_1563 ?_
  refine lv_aload_n hx hb dL_law_1564 rfl (lv_at hl 0 rfl) ?_
  refine lv_iload hx hb dL_law_1565 (lv_at hl 4 rfl) ?_
  refine lv_iconst (v := 2) hx hb dL_law_1567 (by decide) ?_
  refine lv_iadd hx hb dL_law_1568 ?_
  refine va_sld hx hb hX hbl hbA V.hS (law_in (k := 2) hi0 hi8 hL (by decide) rfl) dL_law_1569 ?_
  refine lM F V (fun r u h => ⟨h.1, DIr_kp h.2.1 (fun _ => rfl) (fun _ => rfl) V.hDI⟩) (va_runV (As := [.int (xs (i + 1).toNatClampNeg), .int (xs (i + 2).toNatClampNeg)]) (rest := []) ⟨hx, hb, hml, hown, hts⟩ (q_middleM l dC dI cT am EM H.size (xs (i + 1).toNatClampNeg) (xs (i + 2).toNatClampNeg) V.hM (hU.ru hT).txm) (cwV 2 hts (gl_V (al_4 _ (zs16 (zs4 (zs1 (zs1 (zs1 (zs0))))))) (al_4 _ (zs16 (zs4 (zs4 (zs0))))) (al_4 _ (zs16 (zs4 (zs4 (zs1 (zs0)))))) (vl_A _ (in_24 _ (zs4 (zs4 (zs4 (zs1 (zs1 (zs1 (zs0))))))))) (vl_A _ (in_32 _ (zs16 (zs4 (zs4 (zs1 (zs1 (zs1 (zs0)))))))))) rfl rfl rfl ⟨rfl, hz_yX13_middle_2⟩ ⟨Nat.le_of_ble_eq_true rfl, Nat.le_of_ble_eq_true rfl⟩) ⟨HW_bl, va_recv F.km V.pm (ci := 14) (q0 := 0) rfl (V.hM.ob 0 (Nat.le_of_ble_eq_true rfl) rfl), HW_wi V.pm F.km V.dm V.hS F.hA F.hEV⟩ rfl rfl hl.1 rfl (lv_room (Nat.le_of_ble_eq_true rfl)) dL_law_1570 ⟨by show cn + 0 ≤ 601024; omega, by show sn + 0 ≤ 7293034; omega⟩) (fun r2 EM1 H locs hw2 V => ?_)
  have hRS := hRS.keep (cf' := cf) (E' := E1) rfl (fun i9 _ => xik hw1.2.1 (o := 64 * (i9 + 1) + 12) (j := 2) (by first | exact wl_p rfl rfl (by omega) | (simp [wl]; done) | (simp [wl]; omega))) (fun i9 _ => xik hw1.2.1 (o := 64 * (i9 + 1) + 12) (j := 3) (by first | exact wl_p rfl rfl (by omega) | (simp [wl]; done) | (simp [wl]; omega)))
  have hb9 : (xi (E 1) 1).toInt ≤ (xi (E1 1) 1).toInt := by rw [show xi (E1 1) 1 = xi (E 1) 1 from xik hw1.2.1 (o := 1) (j := 1) (by first | rfl | (simp [wl]; done) | (simp [wl]; omega))]; exact Int.le_refl _
  have hB := hB.keep (cf' := cf) (E' := E1) rfl hb9 (fun i9 _ => xik hw1.2.1 (o := 64 * (i9 + 1) + 0) (j := 0) (by first | exact wl_p rfl rfl (by omega) | (simp [wl]; done) | (simp [wl]; omega)))
  have hG9 := hG
  have hT9 := hT
  have hU9 := hU
  have hT := hT.keep (cf' := cf) (E' := E1) rfl (xik hw1.2.1 (o := 2) (j := 1) (by first | rfl | (simp [wl]; done) | (simp [wl]; omega))) (fun j9 => xik hw1.2.1 (o := 21) (j := j9) (by first | rfl | (simp [wl]; done) | (simp [wl]; omega))) (fun i9 j9 _ => xik hw1.2.1 (o := 64 * (i9 + 1) + 1) (j := j9) (by first | exact wl_p rfl rfl (by omega) | (simp [wl]; done) | (simp [wl]; omega))) (xik hw2.2.1 (o := 0) (j := 16) rfl) (xik hw2.2.1 (o := 0) (j := 17) rfl) (fun j9 => xik hw2.2.1 (o := 7) (j := j9) rfl) (fun j9 => xik hw2.2.1 (o := 10) (j := j9) rfl) (fun j9 => xik hw2.2.1 (o := 11) (j := j9) rfl)
  have hU := hU.keep (cf' := cf) (E' := E1) rfl (fun _ _ => ⟨rfl, rfl⟩) (fun i9 _ t9 _ _ j9 => xik hw1.2.1 (o := 64 * (i9 + 1) + t9) (j := j9) (by first | exact wl_p rfl rfl (by omega) | (simp [wl]; done) | (simp [wl]; omega))) (fun j9 => xik hw2.2.1 (o := 8) (j := j9) rfl) (fun j9 => xik hw2.2.1 (o := 9) (j := j9) rfl)
  have hG := hG.keep (cf' := cf) (E' := E1) rfl (fun i9 j9 _ => xik hw1.2.1 (o := 64 * (i9 + 1) + 14) (j := j9) (by first | exact wl_p rfl rfl (by omega) | (simp [wl]; done) | (simp [wl]; omega))) (fun j9 => xik hw2.2.1 (o := 51) (j := j9) rfl)
  have e0 : (xi (E 1) 0).toInt = (xi (EM 0) 1).toInt := congrArg Int32.toInt hR.now
  have e1 : (xi (E 1) 1).toInt = (xi (EM 0) 8).toInt := congrArg Int32.toInt hR.boats
  have e2 : (xi (E 1) 2).toInt = (xi (EM 0) 48).toInt := congrArg Int32.toInt hR.red
  obtain ⟨q0, q2, q3, q4, q5⟩ := hR.cnt
  have lm : (-1 : Int32).toInt = -1 := rfl
  have l0 : (0 : Int32).toInt = 0 := rfl
  have l1 : (1 : Int32).toInt = 1 := rfl
  have l2 : (2 : Int32).toInt = 2 := rfl
  have lk : (1000 : Int32).toInt = 1000 := rfl
  have hd : r1.toInt = r2.toInt ∧ True := by
    obtain ⟨-, -, p1, p2⟩ := id hw1
    obtain ⟨-, -, m1, m2⟩ := id hw2
    refine ⟨?_, trivial⟩
    by_cases g : (0 ≤ (xs (i + 1).toNatClampNeg).toInt ∧ (xs (i + 1).toNatClampNeg).toInt < ((cf 2 : Nat) : Int)) ∧ (0 ≤ (xs (i + 2).toNatClampNeg).toInt ∧ (xs (i + 2).toNatClampNeg).toInt < (xi (E 1) 1).toInt)
    · have h1 := p1 g
      have h2 := m1 (by omega)
      rw [← hR.now] at h2
      exact md_eq (a := (xs (i + 1).toNatClampNeg)) (b := (xs (i + 2).toNatClampNeg)) (q := xi (E 1) 0) hR hG9 (hU9.ru hT9) hM0 (by omega) (by omega) (by omega) (by omega) bb g.1 (by omega) bn h1 h2
    · have h1 := p2 g
      have h2 := m2 (by omega)
      omega
  have hR := hR.keep hcf k6 k7 k8 hp (kpS hw2.2.1 rfl) (kpR hw2.2.1 rfl)
  refine lv_pop hx hb dL_law_1573 rfl ?_
  refine lv_goto (tgt := 1859) hx hb dL_law_1574 (by decide) ?_
  exact W.widen (k := cn + 7) (n := sn + 3300) (by omega) (by omega) (tail _ _ _ _ _ _ _ _ V ⟨⟨⟨⟨⟨hR, hT⟩, hU⟩, hG⟩, hB⟩, hRS⟩ hl)
set_option maxHeartbeats 4000000 in
set_option maxRecDepth 100000 in
theorem law_case_31 {p : Program} {e : Env} {s : State} {m : MethodId} {below : List Frame} {meth : Method} {c : Code} (l : Launch) {b L : Nat} {xs : Nat → Int32} (hL : L ≤ 4096) (C0 : lw_At p s m meth c b L xs) {A : Nat → Prop} {ed : Nat} {dC : Nat → ClassId} {dI : Nat → Nat → Nat} {cT : Nat → ClassId} {cL : ClassId} (F : FX l s A ed dC dI cT cL) {x ou : Nat} {am cf ad : Nat → Nat} {E EM : Nat → va_E} {f : Nat → Int64} {H : Heap} {locs : List Loc} (V : INV s A ed dC dI cT cL x ou am cf ad E EM f H locs) (hR : REL15 cf E EM) {i : Int32} (hi0 : 0 ≤ i.toInt) (hi8 : i.toInt + 8 ≤ (L : Int)) {cn sn : Nat} (hcn : cn + 7 ≤ 601024) (hsn : sn + 3300 ≤ 7293034) (ls : Array Slot) (hl : lv_has ls 7 [(0, .ref b), (1, .ref x), (2, .ref (am 0)), (3, .ref ou), (4, .int i)]) (tail : (∀ (cf ad : Nat → Nat) (E EM : Nat → va_E) (f : Nat → Int64) (H : Heap) (locs : List Loc) (ls : Array Slot), INV s A ed dC dI cT cL x ou am cf ad E EM f H locs → REL15 cf E EM → lv_has ls 7 [(0, .ref b), (1, .ref x), (2, .ref (am 0)), (3, .ref ou), (4, .int i)] → W p l e room_1 s m #[Value.ref b] below meth c H locs (cn + 7) (sn + 3300) (lw_Z below #[Value.ref b] s) (F0 m 1859 ls []))) : W p l e room_1 s m #[Value.ref b] below meth c H locs cn sn (lw_Z below #[Value.ref b] s) (F0 m 1577 ls []) := by
  obtain ⟨hx, hb, hr, hml, hown, hts0, hX, hbl, hlocks, hgv⟩ := id C0
  have hts := fun w (h : w ∈ v_law) => hts0 w (v_law_in w h)
  have hbA : ¬ A b := F.hnA b hbl
  obtain rfl := V.hx
  obtain ⟨⟨⟨⟨⟨hR, hT⟩, hU⟩, hG⟩, hB⟩, hRS⟩ := hR
  refine lv_aload_n hx hb dL_law_1577 rfl (lv_at hl 1 rfl) ?_
  refine lv_aload_n hx hb dL_law_1578 rfl (lv_at hl 0 rfl) ?_
  refine lv_iload hx hb dL_law_1579 (lv_at hl 4 rfl) ?_
  refine lv_iconst (v := 1) hx hb dL_law_1581 (by decide) ?_
  refine lv_iadd hx hb dL_law_1582 ?_
  refine va_sld hx hb hX hbl hbA V.hS (law_in (k := 1) hi0 hi8 hL (by decide) rfl) dL_law_1583 ?_
  have hI0 := V.hI
  have hC0 := V.hC
  have hM0 := V.hM
  have bn : (0 : Int) ≤ (xi (E 1) 0).toInt ∧ (xi (E 1) 0).toInt ≤ 400 := hI0.iv 1 (mF 1 rfl) rfl (Nat.le_of_ble_eq_true rfl) rfl
  have bb : (0 : Int) ≤ (xi (E 1) 1).toInt ∧ (xi (E 1) 1).toInt ≤ 16 := hI0.iv 1 (mF 1 rfl) rfl (Nat.le_of_ble_eq_true rfl) rfl
  obtain ⟨⟨k0, k1, k2, k3, k4, k5⟩, -⟩ := id hC0
  refine lC F V (fun r u h => h.1) (va_runV (As := [.int (xs (i + 1).toNatClampNeg)]) (rest := []) ⟨hx, hb, hml, hown, hts⟩ (q_u_fitX l dC dI cT cf V.hC ad E H.size (xs (i + 1).toNatClampNeg) V.hI hU.1) (cwV 1 hts (gl_V (al_4 _ (zs16 (zs4 (zs4 (zs1 (zs1 (zs0))))))) (al_4 _ (zs16 (zs4 (zs4 (zs1 (zs1 (zs1 (zs0)))))))) (al_4 _ (zs16 (zs4 (zs4 (zs4 (zs0)))))) (vl_A _ (in_4 _ (zs16 (zs4 (zs1 (zs1 (zs1 (zs0)))))))) (vl_A _ (in_18 _ (zs16 (zs1 (zs0)))))) rfl rfl rfl ⟨rfl, hz_yX12_fit_1⟩ ⟨Nat.le_of_ble_eq_true rfl, Nat.le_of_ble_eq_true rfl⟩) ⟨HWL_bl, va_recv F.kc V.cp (ci := 13) (q0 := posL 0 (LC cf)) rfl (V.hI.ob 0 (mF 0 rfl) rfl), HWL_wi V.cp F.kc V.dc V.hS F.hA (V.ec F)⟩ rfl rfl hl.1 rfl (lv_room (Nat.le_of_ble_eq_true rfl)) dL_law_1584 ⟨by show cn + 0 ≤ 601024; omega, by show sn + 0 ≤ 7293034; omega⟩) (fun r1 E1 H locs hw1 V => ?_)
  have hcf : ∀ j, j < 6 → j ≠ 1 → cf j = cf j := fun _ _ _ => rfl
  have k6 : xi (E1 1) 0 = xi (E 1) 0 := xik hw1.2.1 (o := 1) (j := 0) (by first | rfl | (simp [wl]; done) | (simp [wl]; omega))
  have k7 : xi (E1 1) 1 = xi (E 1) 1 := xik hw1.2.1 (o := 1) (j := 1) (by first | rfl | (simp [wl]; done) | (simp [wl]; omega))
  have k8 : xi (E1 1) 2 = xi (E 1) 2 := xik hw1.2.1 (o := 1) (j := 2) (by first | rfl | (simp [wl]; done) | (simp [wl]; omega))
  have hp : PK X0 cf E E1 := fun t i j _ _ _ _ => xik hw1.2.1 (by first | exact wl_p rfl rfl (by omega) | (simp [wl]; done) | (simp [wl]; omega))
  refine lv_pop hx hb dL_law_1587 rfl ?_
  refine lv_aload_n hx hb dL_law_1588 rfl (lv_at hl 2 rfl) ?_
  refine lv_aload_n hx hb dL_law_1589 rfl (lv_at hl 0 rfl) ?_
  refine lv_iload hx hb dL_law_1590 (lv_at hl 4 rfl) ?_
  refine lv_iconst (v := 1) hx hb dL_law_1592 (by decide) ?_
  refine lv_iadd hx hb dL_law_1593 ?_
  refine va_sld hx hb hX hbl hbA V.hS (law_in (k := 1) hi0 hi8 hL (by decide) rfl) dL_law_1594 ?_
  refine lM F V (fun r u h => ⟨h.1, DIr_kp h.2.1 (fun _ => rfl) (fun _ => rfl) V.hDI⟩) (va_runV (As := [.int (xs (i + 1).toNatClampNeg)]) (rest := []) ⟨hx, hb, hml, hown, hts⟩ (q_fitM l dC dI cT am EM H.size (xs (i + 1).toNatClampNeg) V.hM (hU.ru hT).txm) (cwV 1 hts (gl_V (al_4 _ (zs16 (zs4 (zs4 (zs4 (zs1 (zs0))))))) (al_4 _ (zs16 (zs4 (zs4 (zs4 (zs1 (zs1 (zs0)))))))) (al_4 _ (zs16 (zs4 (zs4 (zs4 (zs1 (zs1 (zs1 (zs0))))))))) (vl_A _ (in_24 _ (zs4 (zs4 (zs4 (zs1 (zs1 (zs1 (zs0))))))))) (vl_A _ (in_31 _ (zs16 (zs16 (zs4 (zs1 (zs1 (zs0))))))))) rfl rfl rfl ⟨rfl, hz_yX13_fit_1⟩ ⟨Nat.le_of_ble_eq_true rfl, Nat.le_of_ble_eq_true rfl⟩) ⟨HW_bl, va_recv F.km V.pm (ci := 14) (q0 := 0) rfl (V.hM.ob 0 (Nat.le_of_ble_eq_true rfl) rfl), HW_wi V.pm F.km V.dm V.hS F.hA F.hEV⟩ rfl rfl hl.1 rfl (lv_room (Nat.le_of_ble_eq_true rfl)) dL_law_1595 ⟨by show cn + 0 ≤ 601024; omega, by show sn + 0 ≤ 7293034; omega⟩) (fun r2 EM1 H locs hw2 V => ?_)
  have hRS := hRS.keep (cf' := cf) (E' := E1) rfl (fun i9 _ => xik hw1.2.1 (o := 64 * (i9 + 1) + 12) (j := 2) (by first | exact wl_p rfl rfl (by omega) | (simp [wl]; done) | (simp [wl]; omega))) (fun i9 _ => xik hw1.2.1 (o := 64 * (i9 + 1) + 12) (j := 3) (by first | exact wl_p rfl rfl (by omega) | (simp [wl]; done) | (simp [wl]; omega)))
  have hb9 : (xi (E 1) 1).toInt ≤ (xi (E1 1) 1).toInt := by rw [show xi (E1 1) 1 = xi (E 1) 1 from xik hw1.2.1 (o := 1) (j := 1) (by first | rfl | (simp [wl]; done) | (simp [wl]; omega))]; exact Int.le_refl _
  have hB := hB.keep (cf' := cf) (E' := E1) rfl hb9 (fun i9 _ => xik hw1.2.1 (o := 64 * (i9 + 1) + 0) (j := 0) (by first | exact wl_p rfl rfl (by omega) | (simp [wl]; done) | (simp [wl]; omega)))
  have hG9 := hG
  have hT9 := hT
  have hU9 := hU
  have hT := hT.keep (cf' := cf) (E' := E1) rfl (xik hw1.2.1 (o := 2) (j := 1) (by first | rfl | (simp [wl]; done) | (simp [wl]; omega))) (fun j9 => xik hw1.2.1 (o := 21) (j := j9) (by first | rfl | (simp [wl]; done) | (simp [wl]; omega))) (fun i9 j9 _ => xik hw1.2.1 (o := 64 * (i9 + 1) + 1) (j := j9) (by first | exact wl_p rfl rfl (by omega) | (simp [wl]; done) | (simp [wl]; omega))) (xik hw2.2.1 (o := 0) (j := 16) rfl) (xik hw2.2.1 (o := 0) (j := 17) rfl) (fun j9 => xik hw2.2.1 (o := 7) (j := j9) rfl) (fun j9 => xik hw2.2.1 (o := 10) (j := j9) rfl) (fun j9 => xik hw2.2.1 (o := 11) (j := j9) rfl)
  have hU := hU.keep (cf' := cf) (E' := E1) rfl (fun _ _ => ⟨rfl, rfl⟩) (fun i9 _ t9 _ _ j9 => xik hw1.2.1 (o := 64 * (i9 + 1) + t9) (j := j9) (by first | exact wl_p rfl rfl (by omega) | (simp [wl]; done) | (simp [wl]; omega))) (fun j9 => xik hw2.2.1 (o := 8) (j := j9) rfl) (fun j9 => xik hw2.2.1 (o := 9) (j := j9) rfl)
  have hG := hG.keep (cf' := cf) (E' := E1) rfl (fun i9 j9 _ => xik hw1.2.1 (o := 64 * (i9 + 1) + 14) (j := j9) (by first | exact wl_p rfl rfl (by omega) | (simp [wl]; done) | (simp [wl]; omega))) (fun j9 => xik hw2.2.1 (o := 51) (j := j9) rfl)
  have e0 : (xi (E 1) 0).toInt = (xi (EM 0) 1).toInt := congrArg Int32.toInt hR.now
  have e1 : (xi (E 1) 1).toInt = (xi (EM 0) 8).toInt := congrArg Int32.toInt hR.boats
  have e2 : (xi (E 1) 2).toInt = (xi (EM 0) 48).toInt := congrArg Int32.toInt hR.red
  obtain ⟨q0, q2, q3, q4, q5⟩ := hR.cnt
  have lm : (-1 : Int32).toInt = -1 := rfl
  have l0 : (0 : Int32).toInt = 0 := rfl
  have l1 : (1 : Int32).toInt = 1 := rfl
  have l2 : (2 : Int32).toInt = 2 := rfl
  have lk : (1000 : Int32).toInt = 1000 := rfl
  have hd : r1.toInt = r2.toInt ∧ True := by
    obtain ⟨-, -, p1, p2⟩ := id hw1
    obtain ⟨-, -, m1, m2⟩ := id hw2
    refine ⟨?_, trivial⟩
    by_cases g : 0 ≤ (xs (i + 1).toNatClampNeg).toInt ∧ (xs (i + 1).toNatClampNeg).toInt < (xi (E 1) 1).toInt
    · have h1 := p1 g
      have h2 := m1 (by omega)
      rw [← hR.now] at h2
      exact fit_eq (b := (xs (i + 1).toNatClampNeg)) (q := xi (E 1) 0) hR hG9 (hU9.ru hT9) hM0 (by omega) (by omega) (by omega) (by omega) bb (by omega) bn h1 h2
    · have h1 := p2 g
      have h2 := m2 (by omega)
      omega
  have hR := hR.keep hcf k6 k7 k8 hp (kpS hw2.2.1 rfl) (kpR hw2.2.1 rfl)
  refine lv_pop hx hb dL_law_1598 rfl ?_
  refine lv_goto (tgt := 1859) hx hb dL_law_1599 (by decide) ?_
  exact W.widen (k := cn + 7) (n := sn + 3300) (by omega) (by omega) (tail _ _ _ _ _ _ _ _ V ⟨⟨⟨⟨⟨hR, hT⟩, hU⟩, hG⟩, hB⟩, hRS⟩ hl)
set_option maxHeartbeats 4000000 in
set_option maxRecDepth 100000 in
theorem law_case_32 {p : Program} {e : Env} {s : State} {m : MethodId} {below : List Frame} {meth : Method} {c : Code} (l : Launch) {b L : Nat} {xs : Nat → Int32} (hL : L ≤ 4096) (C0 : lw_At p s m meth c b L xs) {A : Nat → Prop} {ed : Nat} {dC : Nat → ClassId} {dI : Nat → Nat → Nat} {cT : Nat → ClassId} {cL : ClassId} (F : FX l s A ed dC dI cT cL) {x ou : Nat} {am cf ad : Nat → Nat} {E EM : Nat → va_E} {f : Nat → Int64} {H : Heap} {locs : List Loc} (V : INV s A ed dC dI cT cL x ou am cf ad E EM f H locs) (hR : REL15 cf E EM) {i : Int32} (hi0 : 0 ≤ i.toInt) (hi8 : i.toInt + 8 ≤ (L : Int)) {cn sn : Nat} (hcn : cn + 7 ≤ 601024) (hsn : sn + 3300 ≤ 7293034) (ls : Array Slot) (hl : lv_has ls 7 [(0, .ref b), (1, .ref x), (2, .ref (am 0)), (3, .ref ou), (4, .int i)]) (tail : (∀ (cf ad : Nat → Nat) (E EM : Nat → va_E) (f : Nat → Int64) (H : Heap) (locs : List Loc) (ls : Array Slot), INV s A ed dC dI cT cL x ou am cf ad E EM f H locs → REL15 cf E EM → lv_has ls 7 [(0, .ref b), (1, .ref x), (2, .ref (am 0)), (3, .ref ou), (4, .int i)] → W p l e room_1 s m #[Value.ref b] below meth c H locs (cn + 7) (sn + 3300) (lw_Z below #[Value.ref b] s) (F0 m 1859 ls []))) : W p l e room_1 s m #[Value.ref b] below meth c H locs cn sn (lw_Z below #[Value.ref b] s) (F0 m 1602 ls []) := by
  obtain ⟨hx, hb, hr, hml, hown, hts0, hX, hbl, hlocks, hgv⟩ := id C0
  have hts := fun w (h : w ∈ v_law) => hts0 w (v_law_in w h)
  have hbA : ¬ A b := F.hnA b hbl
  obtain rfl := V.hx
  obtain ⟨⟨⟨⟨⟨hR, hT⟩, hU⟩, hG⟩, hB⟩, hRS⟩ := hR
  refine lv_aload_n hx hb dL_law_1602 rfl (lv_at hl 1 rfl) ?_
  refine lv_aload_n hx hb dL_law_1603 rfl (lv_at hl 0 rfl) ?_
  refine lv_iload hx hb dL_law_1604 (lv_at hl 4 rfl) ?_
  refine lv_iconst (v := 1) hx hb dL_law_1606 (by decide) ?_
  refine lv_iadd hx hb dL_law_1607 ?_
  refine va_sld hx hb hX hbl hbA V.hS (law_in (k := 1) hi0 hi8 hL (by decide) rfl) dL_law_1608 ?_
  refine lv_aload_n hx hb dL_law_1609 rfl (lv_at hl 0 rfl) ?_
  refine lv_iload hx hb dL_law_1610 (lv_at hl 4 rfl) ?_
  refine lv_iconst (v := 2) hx hb dL_law_1612 (by decide) ?_
  refine lv_iadd hx hb dL_law_1613 ?_
  refine va_sld hx hb hX hbl hbA V.hS (law_in (k := 2) hi0 hi8 hL (by decide) rfl) dL_law_1614 ?_
  have hI0 := V.hI
  have hC0 := V.hC
  have hM0 := V.hM
  have bn : (0 : Int) ≤ (xi (E 1) 0).toInt ∧ (xi (E 1) 0).toInt ≤ 400 := hI0.iv 1 (mF 1 rfl) rfl (Nat.le_of_ble_eq_true rfl) rfl
  have bb : (0 : Int) ≤ (xi (E 1) 1).toInt ∧ (xi (E 1) 1).toInt ≤ 16 := hI0.iv 1 (mF 1 rfl) rfl (Nat.le_of_ble_eq_true rfl) rfl
  obtain ⟨⟨k0, k1, k2, k3, k4, k5⟩, -⟩ := id hC0
  refine lC F V (fun r u h => h.1) (va_runV (As := [.int (xs (i + 1).toNatClampNeg), .int (xs (i + 2).toNatClampNeg)]) (rest := []) ⟨hx, hb, hml, hown, hts⟩ (q_u_suspectX l dC dI cT cf V.hC ad E H.size (xs (i + 1).toNatClampNeg) (xs (i + 2).toNatClampNeg) V.hI hU.1) (cwV 2 hts (gl_V (al_4 _ (zs16 (zs16 (zs0)))) (al_4 _ (zs16 (zs16 (zs1 (zs0))))) (al_4 _ (zs16 (zs16 (zs1 (zs1 (zs0)))))) (vl_A _ (in_4 _ (zs16 (zs4 (zs1 (zs1 (zs1 (zs0)))))))) (vl_A _ (in_23 _ (zs4 (zs0))))) rfl rfl rfl ⟨rfl, hz_yX12_suspect_2⟩ ⟨Nat.le_of_ble_eq_true rfl, Nat.le_of_ble_eq_true rfl⟩) ⟨HWL_bl, va_recv F.kc V.cp (ci := 13) (q0 := posL 0 (LC cf)) rfl (V.hI.ob 0 (mF 0 rfl) rfl), HWL_wi V.cp F.kc V.dc V.hS F.hA (V.ec F)⟩ rfl rfl hl.1 rfl (lv_room (Nat.le_of_ble_eq_true rfl)) dL_law_1615 ⟨by show cn + 0 ≤ 601024; omega, by show sn + 0 ≤ 7293034; omega⟩) (fun r1 E1 H locs hw1 V => ?_)
  have hcf : ∀ j, j < 6 → j ≠ 1 → cf j = cf j := fun _ _ _ => rfl
  have k6 : xi (E1 1) 0 = xi (E 1) 0 := xik hw1.2.1 (o := 1) (j := 0) (by first | rfl | (simp [wl]; done) | (simp [wl]; omega))
  have k7 : xi (E1 1) 1 = xi (E 1) 1 := xik hw1.2.1 (o := 1) (j := 1) (by first | rfl | (simp [wl]; done) | (simp [wl]; omega))
  have k8 : xi (E1 1) 2 = xi (E 1) 2 := xik hw1.2.1 (o := 1) (j := 2) (by first | rfl | (simp [wl]; done) | (simp [wl]; omega))
  have hp : PK X0 cf E E1 := fun t i j _ _ _ _ => xik hw1.2.1 (by first | exact wl_p rfl rfl (by omega) | (simp [wl]; done) | (simp [wl]; omega))
  refine lv_pop hx hb dL_law_1618 rfl ?_
  refine lv_aload_n hx hb dL_law_1619 rfl (lv_at hl 2 rfl) ?_
  refine lv_aload_n hx hb dL_law_1620 rfl (lv_at hl 0 rfl) ?_
  refine lv_iload hx hb dL_law_1621 (lv_at hl 4 rfl) ?_
  refine lv_iconst (v := 1) hx hb dL_law_1623 (by decide) ?_
  refine lv_iadd hx hb dL_law_1624 ?_
  refine va_sld hx hb hX hbl hbA V.hS (law_in (k := 1) hi0 hi8 hL (by decide) rfl) dL_law_1625 ?_
  refine lv_aload_n hx hb dL_law_1626 rfl (lv_at hl 0 rfl) ?_
  refine lv_iload hx hb dL_law_1627 (lv_at hl 4 rfl) ?_
  refine lv_iconst (v := 2) hx hb dL_law_1629 (by decide) ?_
  refine lv_iadd hx hb dL_law_1630 ?_
  refine va_sld hx hb hX hbl hbA V.hS (law_in (k := 2) hi0 hi8 hL (by decide) rfl) dL_law_1631 ?_
  refine lM F V (fun r u h => ⟨h.1, DIr_kp h.2.1 (fun _ => rfl) (fun _ => rfl) V.hDI⟩) (va_runV (As := [.int (xs (i + 1).toNatClampNeg), .int (xs (i + 2).toNatClampNeg)]) (rest := []) ⟨hx, hb, hml, hown, hts⟩ (q_suspectM l dC dI cT am EM H.size (xs (i + 1).toNatClampNeg) (xs (i + 2).toNatClampNeg) V.hM (hU.ru hT).txm) (cwV 2 hts (gl_V (al_4 _ (zs16 (zs16 (zs1 (zs1 (zs1 (zs0))))))) (al_4 _ (zs16 (zs16 (zs4 (zs0))))) (al_4 _ (zs16 (zs16 (zs4 (zs1 (zs0)))))) (vl_A _ (in_24 _ (zs4 (zs4 (zs4 (zs1 (zs1 (zs1 (zs0))))))))) (vl_A _ (in_33 _ (zs16 (zs4 (zs4 (zs1 (zs1 (zs1 (zs0)))))))))) rfl rfl rfl ⟨rfl, hz_yX13_suspect_2⟩ ⟨Nat.le_of_ble_eq_true rfl, Nat.le_of_ble_eq_true rfl⟩) ⟨HW_bl, va_recv F.km V.pm (ci := 14) (q0 := 0) rfl (V.hM.ob 0 (Nat.le_of_ble_eq_true rfl) rfl), HW_wi V.pm F.km V.dm V.hS F.hA F.hEV⟩ rfl rfl hl.1 rfl (lv_room (Nat.le_of_ble_eq_true rfl)) dL_law_1632 ⟨by show cn + 0 ≤ 601024; omega, by show sn + 0 ≤ 7293034; omega⟩) (fun r2 EM1 H locs hw2 V => ?_)
  have hRS := hRS.keep (cf' := cf) (E' := E1) rfl (fun i9 _ => xik hw1.2.1 (o := 64 * (i9 + 1) + 12) (j := 2) (by first | exact wl_p rfl rfl (by omega) | (simp [wl]; done) | (simp [wl]; omega))) (fun i9 _ => xik hw1.2.1 (o := 64 * (i9 + 1) + 12) (j := 3) (by first | exact wl_p rfl rfl (by omega) | (simp [wl]; done) | (simp [wl]; omega)))
  have hb9 : (xi (E 1) 1).toInt ≤ (xi (E1 1) 1).toInt := by rw [show xi (E1 1) 1 = xi (E 1) 1 from xik hw1.2.1 (o := 1) (j := 1) (by first | rfl | (simp [wl]; done) | (simp [wl]; omega))]; exact Int.le_refl _
  have hB := hB.keep (cf' := cf) (E' := E1) rfl hb9 (fun i9 _ => xik hw1.2.1 (o := 64 * (i9 + 1) + 0) (j := 0) (by first | exact wl_p rfl rfl (by omega) | (simp [wl]; done) | (simp [wl]; omega)))
  have hG9 := hG
  have hT9 := hT
  have hU9 := hU
  have hT := hT.keep (cf' := cf) (E' := E1) rfl (xik hw1.2.1 (o := 2) (j := 1) (by first | rfl | (simp [wl]; done) | (simp [wl]; omega))) (fun j9 => xik hw1.2.1 (o := 21) (j := j9) (by first | rfl | (simp [wl]; done) | (simp [wl]; omega))) (fun i9 j9 _ => xik hw1.2.1 (o := 64 * (i9 + 1) + 1) (j := j9) (by first | exact wl_p rfl rfl (by omega) | (simp [wl]; done) | (simp [wl]; omega))) (xik hw2.2.1 (o := 0) (j := 16) rfl) (xik hw2.2.1 (o := 0) (j := 17) rfl) (fun j9 => xik hw2.2.1 (o := 7) (j := j9) rfl) (fun j9 => xik hw2.2.1 (o := 10) (j := j9) rfl) (fun j9 => xik hw2.2.1 (o := 11) (j := j9) rfl)
  have hU := hU.keep (cf' := cf) (E' := E1) rfl (fun _ _ => ⟨rfl, rfl⟩) (fun i9 _ t9 _ _ j9 => xik hw1.2.1 (o := 64 * (i9 + 1) + t9) (j := j9) (by first | exact wl_p rfl rfl (by omega) | (simp [wl]; done) | (simp [wl]; omega))) (fun j9 => xik hw2.2.1 (o := 8) (j := j9) rfl) (fun j9 => xik hw2.2.1 (o := 9) (j := j9) rfl)
  have hG := hG.keep (cf' := cf) (E' := E1) rfl (fun i9 j9 _ => xik hw1.2.1 (o := 64 * (i9 + 1) + 14) (j := j9) (by first | exact wl_p rfl rfl (by omega) | (simp [wl]; done) | (simp [wl]; omega))) (fun j9 => xik hw2.2.1 (o := 51) (j := j9) rfl)
  have e0 : (xi (E 1) 0).toInt = (xi (EM 0) 1).toInt := congrArg Int32.toInt hR.now
  have e1 : (xi (E 1) 1).toInt = (xi (EM 0) 8).toInt := congrArg Int32.toInt hR.boats
  have e2 : (xi (E 1) 2).toInt = (xi (EM 0) 48).toInt := congrArg Int32.toInt hR.red
  obtain ⟨q0, q2, q3, q4, q5⟩ := hR.cnt
  have lm : (-1 : Int32).toInt = -1 := rfl
  have l0 : (0 : Int32).toInt = 0 := rfl
  have l1 : (1 : Int32).toInt = 1 := rfl
  have l2 : (2 : Int32).toInt = 2 := rfl
  have lk : (1000 : Int32).toInt = 1000 := rfl
  have hd : r1.toInt = r2.toInt ∧ True := by
    obtain ⟨-, -, p1, p2⟩ := id hw1
    obtain ⟨-, -, m1, m2⟩ := id hw2
    refine ⟨?_, trivial⟩
    by_cases g : (0 ≤ (xs (i + 1).toNatClampNeg).toInt ∧ (xs (i + 1).toNatClampNeg).toInt < (xi (E 1) 1).toInt) ∧ (0 ≤ (xs (i + 2).toNatClampNeg).toInt ∧ (xs (i + 2).toNatClampNeg).toInt ≤ 1)
    · have h1 := p1 g
      have h2 := m1 (by omega)
      rw [← hR.now] at h2
      exact sp_eq (b := (xs (i + 1).toNatClampNeg)) (q := xi (E 1) 0) hR hG9 (hU9.ru hT9) hM0 (by omega) (by omega) (by omega) (by omega) bb (by omega) bn rfl h1 h2
    · have h1 := p2 g
      have h2 := m2 (by omega)
      omega
  have hR := hR.keep hcf k6 k7 k8 hp (kpS hw2.2.1 rfl) (kpR hw2.2.1 rfl)
  refine lv_pop hx hb dL_law_1635 rfl ?_
  refine lv_goto (tgt := 1859) hx hb dL_law_1636 (by decide) ?_
  exact W.widen (k := cn + 7) (n := sn + 3300) (by omega) (by omega) (tail _ _ _ _ _ _ _ _ V ⟨⟨⟨⟨⟨hR, hT⟩, hU⟩, hG⟩, hB⟩, hRS⟩ hl)
set_option maxHeartbeats 4000000 in
set_option maxRecDepth 100000 in
theorem law_case_33 {p : Program} {e : Env} {s : State} {m : MethodId} {below : List Frame} {meth : Method} {c : Code} (l : Launch) {b L : Nat} {xs : Nat → Int32} (hL : L ≤ 4096) (C0 : lw_At p s m meth c b L xs) {A : Nat → Prop} {ed : Nat} {dC : Nat → ClassId} {dI : Nat → Nat → Nat} {cT : Nat → ClassId} {cL : ClassId} (F : FX l s A ed dC dI cT cL) {x ou : Nat} {am cf ad : Nat → Nat} {E EM : Nat → va_E} {f : Nat → Int64} {H : Heap} {locs : List Loc} (V : INV s A ed dC dI cT cL x ou am cf ad E EM f H locs) (hR : REL15 cf E EM) {i : Int32} (hi0 : 0 ≤ i.toInt) (hi8 : i.toInt + 8 ≤ (L : Int)) {cn sn : Nat} (hcn : cn + 7 ≤ 601024) (hsn : sn + 3300 ≤ 7293034) (ls : Array Slot) (hl : lv_has ls 7 [(0, .ref b), (1, .ref x), (2, .ref (am 0)), (3, .ref ou), (4, .int i)]) (tail : (∀ (cf ad : Nat → Nat) (E EM : Nat → va_E) (f : Nat → Int64) (H : Heap) (locs : List Loc) (ls : Array Slot), INV s A ed dC dI cT cL x ou am cf ad E EM f H locs → REL15 cf E EM → lv_has ls 7 [(0, .ref b), (1, .ref x), (2, .ref (am 0)), (3, .ref ou), (4, .int i)] → W p l e room_1 s m #[Value.ref b] below meth c H locs (cn + 7) (sn + 3300) (lw_Z below #[Value.ref b] s) (F0 m 1859 ls []))) : W p l e room_1 s m #[Value.ref b] below meth c H locs cn sn (lw_Z below #[Value.ref b] s) (F0 m 1639 ls []) := by
  obtain ⟨hx, hb, hr, hml, hown, hts0, hX, hbl, hlocks, hgv⟩ := id C0
  have hts := fun w (h : w ∈ v_law) => hts0 w (v_law_in w h)
  have hbA : ¬ A b := F.hnA b hbl
  obtain rfl := V.hx
  obtain ⟨⟨⟨⟨⟨hR, hT⟩, hU⟩, hG⟩, hB⟩, hRS⟩ := hR
  refine lv_aload_n hx hb dL_law_1639 rfl (lv_at hl 1 rfl) ?_
  refine lv_aload_n hx hb dL_law_1640 rfl (lv_at hl 0 rfl) ?_
  refine lv_iload hx hb dL_law_1641 (lv_at hl 4 rfl) ?_
  refine lv_iconst (v := 1) hx hb dL_law_1643 (by decide) ?_
  refine lv_iadd hx hb dL_law_1644 ?_
  refine va_sld hx hb hX hbl hbA V.hS (law_in (k := 1) hi0 hi8 hL (by decide) rfl) dL_law_1645 ?_
  refine lv_aload_n hx hb dL_law_1646 rfl (lv_at hl 0 rfl) ?_
  refine lv_iload hx hb dL_law_1647 (lv_at hl 4 rfl) ?_
  refine lv_iconst (v := 2) hx hb dL_law_1649 (by decide) ?_
  refine lv_iadd hx hb dL_law_1650 ?_
  refine va_sld hx hb hX hbl hbA V.hS (law_in (k := 2) hi0 hi8 hL (by decide) rfl) dL_law_1651 ?_
  refine lv_aload_n hx hb dL_law_1652 rfl (lv_at hl 0 rfl) ?_
  refine lv_iload hx hb dL_law_1653 (lv_at hl 4 rfl) ?_
  refine lv_iconst (v := 3) hx hb dL_law_1655 (by decide) ?_
  refine lv_iadd hx hb dL_law_1656 ?_
  refine va_sld hx hb hX hbl hbA V.hS (law_in (k := 3) hi0 hi8 hL (by decide) rfl) dL_law_1657 ?_
  refine lv_aload_n hx hb dL_law_1658 rfl (lv_at hl 0 rfl) ?_
  refine lv_iload hx hb dL_law_1659 (lv_at hl 4 rfl) ?_
  refine lv_iconst (v := 4) hx hb dL_law_1661 (by decide) ?_
  refine lv_iadd hx hb dL_law_1662 ?_
  refine va_sld hx hb hX hbl hbA V.hS (law_in (k := 4) hi0 hi8 hL (by decide) rfl) dL_law_1663 ?_
  have hI0 := V.hI
  have hC0 := V.hC
  have hM0 := V.hM
  have bn : (0 : Int) ≤ (xi (E 1) 0).toInt ∧ (xi (E 1) 0).toInt ≤ 400 := hI0.iv 1 (mF 1 rfl) rfl (Nat.le_of_ble_eq_true rfl) rfl
  have bb : (0 : Int) ≤ (xi (E 1) 1).toInt ∧ (xi (E 1) 1).toInt ≤ 16 := hI0.iv 1 (mF 1 rfl) rfl (Nat.le_of_ble_eq_true rfl) rfl
  obtain ⟨⟨k0, k1, k2, k3, k4, k5⟩, -⟩ := id hC0
  refine lC F V (fun r u h => h.1) (va_runV (As := [.int (xs (i + 1).toNatClampNeg), .int (xs (i + 2).toNatClampNeg), .int (xs (i + 3).toNatClampNeg), .int (xs (i + 4).toNatClampNeg)]) (rest := []) ⟨hx, hb, hml, hown, hts⟩ (q_u_startR l dC dI cT cf V.hC ad E H.size (xs (i + 1).toNatClampNeg) (xs (i + 2).toNatClampNeg) (xs (i + 3).toNatClampNeg) (xs (i + 4).toNatClampNeg) V.hI) (cwV 4 hts (gl_V (al_4 _ (zs16 (zs16 (zs4 (zs1 (zs1 (zs0))))))) (al_4 _ (zs16 (zs16 (zs4 (zs1 (zs1 (zs1 (zs0)))))))) (al_5 _ zs0) (vl_A _ (in_4 _ (zs16 (zs4 (zs1 (zs1 (zs1 (zs0)))))))) (vl_A _ (in_22 _ (zs16 (zs16 (zs4 (zs1 (zs1 (zs1 (zs0)))))))))) rfl rfl rfl ⟨rfl, hz_yX12_start_4⟩ ⟨Nat.le_of_ble_eq_true rfl, Nat.le_of_ble_eq_true rfl⟩) ⟨HWL_bl, va_recv F.kc V.cp (ci := 13) (q0 := posL 0 (LC cf)) rfl (V.hI.ob 0 (mF 0 rfl) rfl), HWL_wi V.cp F.kc V.dc V.hS F.hA (V.ec F)⟩ rfl rfl hl.1 rfl (lv_room (Nat.le_of_ble_eq_true rfl)) dL_law_1664 ⟨by show cn + 0 ≤ 601024; omega, by show sn + 0 ≤ 7293034; omega⟩) (fun r1 E1 H locs hw1 V => ?_)
  refine lv_pop hx hb dL_law_1667 rfl ?_
  refine lv_aload_n hx hb dL_law_1668 rfl (lv_at hl 2 rfl) ?_
  refine lv_aload_n hx hb dL_law_1669 rfl (lv_at hl 0 rfl) ?_
  refine lv_iload hx hb dL_law_1670 (lv_at hl 4 rfl) ?_
  refine lv_iconst (v := 1) hx hb dL_law_1672 (by decide) ?_
  refine lv_iadd hx hb dL_law_1673 ?_
  refine va_sld hx hb hX hbl hbA V.hS (law_in (k := 1) hi0 hi8 hL (by decide) rfl) dL_law_1674 ?_
  refine lv_aload_n hx hb dL_law_1675 rfl (lv_at hl 0 rfl) ?_
  refine lv_iload hx hb dL_law_1676 (lv_at hl 4 rfl) ?_
  refine lv_iconst (v := 2) hx hb dL_law_1678 (by decide) ?_
  refine lv_iadd hx hb dL_law_1679 ?_
  refine va_sld hx hb hX hbl hbA V.hS (law_in (k := 2) hi0 hi8 hL (by decide) rfl) dL_law_1680 ?_
  refine lv_aload_n hx hb dL_law_1681 rfl (lv_at hl 0 rfl) ?_
  refine lv_iload hx hb dL_law_1682 (lv_at hl 4 rfl) ?_
  refine lv_iconst (v := 3) hx hb dL_law_1684 (by decide) ?_
  refine lv_iadd hx hb dL_law_1685 ?_
  refine va_sld hx hb hX hbl hbA V.hS (law_in (k := 3) hi0 hi8 hL (by decide) rfl) dL_law_1686 ?_
  refine lv_aload_n hx hb dL_law_1687 rfl (lv_at hl 0 rfl) ?_
  refine lv_iload hx hb dL_law_1688 (lv_at hl 4 rfl) ?_
  refine lv_iconst (v := 4) hx hb dL_law_1690 (by decide) ?_
  refine lv_iadd hx hb dL_law_1691 ?_
  refine va_sld hx hb hX hbl hbA V.hS (law_in (k := 4) hi0 hi8 hL (by decide) rfl) dL_law_1692 ?_
  refine lM F V (fun r u h => ⟨h.1, DIr_kp h.2.1 (fun _ => rfl) (fun _ => rfl) V.hDI⟩) (va_runV (As := [.int (xs (i + 1).toNatClampNeg), .int (xs (i + 2).toNatClampNeg), .int (xs (i + 3).toNatClampNeg), .int (xs (i + 4).toNatClampNeg)]) (rest := []) ⟨hx, hb, hml, hown, hts⟩ (q_startR l dC dI cT am EM H.size (xs (i + 1).toNatClampNeg) (xs (i + 2).toNatClampNeg) (xs (i + 3).toNatClampNeg) (xs (i + 4).toNatClampNeg) V.hM) (cwV 4 hts (gl_V (al_5 _ (zs1 (zs0))) (al_5 _ (zs1 (zs1 (zs0)))) (al_5 _ (zs1 (zs1 (zs1 (zs0))))) (vl_A _ (in_24 _ (zs4 (zs4 (zs4 (zs1 (zs1 (zs1 (zs0))))))))) (vl_A _ (in_33 _ (zs16 (zs4 (zs4 (zs1 (zs0)))))))) rfl rfl rfl ⟨rfl, hz_yX13_start_4⟩ ⟨Nat.le_of_ble_eq_true rfl, Nat.le_of_ble_eq_true rfl⟩) ⟨HW_bl, va_recv F.km V.pm (ci := 14) (q0 := 0) rfl (V.hM.ob 0 (Nat.le_of_ble_eq_true rfl) rfl), HW_wi V.pm F.km V.dm V.hS F.hA F.hEV⟩ rfl rfl hl.1 rfl (lv_room (Nat.le_of_ble_eq_true rfl)) dL_law_1693 ⟨by show cn + 0 ≤ 601024; omega, by show sn + 0 ≤ 7293034; omega⟩) (fun r2 EM1 H locs hw2 V => ?_)
  have hRS := hRS.keep (cf' := cf) (E' := E1) rfl (fun i9 _ => xik hw1.2.1 (o := 64 * (i9 + 1) + 12) (j := 2) (by first | exact wl_p rfl rfl (by omega) | (simp [wl]; done) | (simp [wl]; omega))) (fun i9 _ => xik hw1.2.1 (o := 64 * (i9 + 1) + 12) (j := 3) (by first | exact wl_p rfl rfl (by omega) | (simp [wl]; done) | (simp [wl]; omega)))
  have hb9 : (xi (E 1) 1).toInt ≤ (xi (E1 1) 1).toInt := by rw [show xi (E1 1) 1 = xi (E 1) 1 from xik hw1.2.1 (o := 1) (j := 1) (by first | rfl | (simp [wl]; done) | (simp [wl]; omega))]; exact Int.le_refl _
  have hB := hB.keep (cf' := cf) (E' := E1) rfl hb9 (fun i9 _ => xik hw1.2.1 (o := 64 * (i9 + 1) + 0) (j := 0) (by first | exact wl_p rfl rfl (by omega) | (simp [wl]; done) | (simp [wl]; omega)))
  have hT := hT.keep (cf' := cf) (E' := E1) rfl (xik hw1.2.1 (o := 2) (j := 1) (by first | rfl | (simp [wl]; done) | (simp [wl]; omega))) (fun j9 => xik hw1.2.1 (o := 21) (j := j9) (by first | rfl | (simp [wl]; done) | (simp [wl]; omega))) (fun i9 j9 _ => xik hw1.2.1 (o := 64 * (i9 + 1) + 1) (j := j9) (by first | exact wl_p rfl rfl (by omega) | (simp [wl]; done) | (simp [wl]; omega))) (xik hw2.2.1 (o := 0) (j := 16) rfl) (xik hw2.2.1 (o := 0) (j := 17) rfl) (fun j9 => xik hw2.2.1 (o := 7) (j := j9) rfl) (fun j9 => xik hw2.2.1 (o := 10) (j := j9) rfl) (fun j9 => xik hw2.2.1 (o := 11) (j := j9) rfl)
  have hU := hU.keep (cf' := cf) (E' := E1) rfl (fun _ _ => ⟨rfl, rfl⟩) (fun i9 _ t9 _ _ j9 => xik hw1.2.1 (o := 64 * (i9 + 1) + t9) (j := j9) (by first | exact wl_p rfl rfl (by omega) | (simp [wl]; done) | (simp [wl]; omega))) (fun j9 => xik hw2.2.1 (o := 8) (j := j9) rfl) (fun j9 => xik hw2.2.1 (o := 9) (j := j9) rfl)
  have hG := hG.keep (cf' := cf) (E' := E1) rfl (fun i9 j9 _ => xik hw1.2.1 (o := 64 * (i9 + 1) + 14) (j := j9) (by first | exact wl_p rfl rfl (by omega) | (simp [wl]; done) | (simp [wl]; omega))) (fun j9 => xik hw2.2.1 (o := 51) (j := j9) rfl)
  have e0 : (xi (E 1) 0).toInt = (xi (EM 0) 1).toInt := congrArg Int32.toInt hR.now
  have e1 : (xi (E 1) 1).toInt = (xi (EM 0) 8).toInt := congrArg Int32.toInt hR.boats
  have e2 : (xi (E 1) 2).toInt = (xi (EM 0) 48).toInt := congrArg Int32.toInt hR.red
  obtain ⟨q0, q2, q3, q4, q5⟩ := hR.cnt
  have lm : (-1 : Int32).toInt = -1 := rfl
  have l0 : (0 : Int32).toInt = 0 := rfl
  have l1 : (1 : Int32).toInt = 1 := rfl
  have l2 : (2 : Int32).toInt = 2 := rfl
  have lk : (1000 : Int32).toInt = 1000 := rfl
  have hpn := fun (b : Int32) (h1 : 0 ≤ (xs (i + 1).toNatClampNeg).toInt ∧ (xs (i + 1).toNatClampNeg).toInt < ((cf 2 : Nat) : Int)) (h2 : 0 ≤ b.toInt ∧ b.toInt < 16) => pen hR.en hM0 bn (by omega) (xs (i + 1).toNatClampNeg) b h1 h2
  have hp : PK (fun t _ => Nat.beq t 9 || Nat.beq t 10) cf E E1 := fun t i j ht _ hx _ => xik hw1.2.1 (by
    have hx : (Nat.beq t 9 || Nat.beq t 10) = false := hx
    have h9 : t ≠ 9 := fun h9 => by subst h9; exact absurd hx (by decide)
    have h10 : t ≠ 10 := fun h9 => by subst h9; exact absurd hx (by decide)
    clear hx
    simp [wl]; omega)
  have hk9 : ∀ i9 j9, i9 ≠ (xs (i + 1).toNatClampNeg).toNatClampNeg → xi (E1 (64 * (i9 + 1) + 9)) j9 = xi (E (64 * (i9 + 1) + 9)) j9 := fun i9 j9 hi => xik hw1.2.1 (by simp [wl]; omega)
  have hk10 : ∀ i9 j9, i9 ≠ (xs (i + 1).toNatClampNeg).toNatClampNeg → xi (E1 (64 * (i9 + 1) + 10)) j9 = xi (E (64 * (i9 + 1) + 10)) j9 := fun i9 j9 hi => xik hw1.2.1 (by simp [wl]; omega)
  have kk0 : xi (E1 1) 0 = xi (E 1) 0 := xik hw1.2.1 (o := 1) (j := 0) (by first | rfl | (simp [wl]; done) | (simp [wl]; omega))
  have kk1 : xi (E1 1) 1 = xi (E 1) 1 := xik hw1.2.1 (o := 1) (j := 1) (by first | rfl | (simp [wl]; done) | (simp [wl]; omega))
  have kk2 : xi (E1 1) 2 = xi (E 1) 2 := xik hw1.2.1 (o := 1) (j := 2) (by first | rfl | (simp [wl]; done) | (simp [wl]; omega))
  have hn0 : (xi (E 1) 0).toInt ≤ (xi (E1 1) 0).toInt := by rw [kk0]; exact Int.le_refl _
  have hb0 : (xi (E 1) 1).toInt ≤ (xi (E1 1) 1).toInt := by rw [kk1]; exact Int.le_refl _
  have hst : ENst (cf 2) E E1 := ENst.of (fun i j hi => hp 7 i j (by decide) (by decide) rfl hi)
  have hsx := kpSx [] hw2.2.1 rfl
  have hrx := kpRx [22, 23] hw2.2.1 rfl
  have hd : r1.toInt = r2.toInt ∧ REL cf E1 EM1 := by
    obtain ⟨-, -, hc1⟩ := id hw1
    obtain ⟨-, -, hc2⟩ := id hw2
    rcases hc1 with ⟨n1, g1, u1, v1⟩ | ⟨n1, g1, u1, v1⟩ <;> rcases hc2 with ⟨n2, g2, u2, v2⟩ | ⟨n2, g2, u2, v2⟩
    · exact ⟨by rw [n1, n2], ⟨(kk0.trans hR.now).trans ((hsx 1 (by decide) rfl)).symm,
      (kk1.trans hR.boats).trans ((hsx 8 (by decide) rfl)).symm,
      (kk2.trans hR.red).trans ((hsx 48 (by decide) rfl)).symm,
      CNT.mv (hR.cnt.k rfl rfl rfl rfl rfl) (fun j hj => by simp only [List.mem_cons, List.not_mem_nil, or_false] at hj; rcases hj with rfl | rfl | rfl | rfl | rfl; exact (hsx 9 (by decide) rfl); exact (hsx 46 (by decide) rfl); exact (hsx 47 (by decide) rfl); exact (hsx 74 (by decide) rfl); exact (hsx 75 (by decide) rfl)),
      EN.m (EM' := EM1) (EN.k (E' := E1) hR.en rfl (fun i j hi => hp 7 i j (by decide) (by decide) rfl hi)) (hrx 21 (by decide) rfl),
      (TBj.km (TBj.kc (E' := E1) hR.tb0 rfl (hp.tb (J := 0) rfl)) (fun q hq j => (show ∀ r ∈ [1, 2, 3, 4, 5, 6], ∀ j, xi (EM1 r) j = xi (EM r) j from fun r hr9 => by simp only [List.mem_cons, List.not_mem_nil, or_false] at hr9; rcases hr9 with rfl | rfl | rfl | rfl | rfl | rfl; exact (hrx 1 (by decide) rfl); exact (hrx 2 (by decide) rfl); exact (hrx 3 (by decide) rfl); exact (hrx 4 (by decide) rfl); exact (hrx 5 (by decide) rfl); exact (hrx 6 (by decide) rfl)) _ (tbm0 q hq) j)),
      (TBj.km (TBj.kc (E' := E1) hR.tb2 rfl (hp.tb (J := 2) rfl)) (fun q hq j => (show ∀ r ∈ [20, 13, 14, 15, 16, 17, 18], ∀ j, xi (EM1 r) j = xi (EM r) j from fun r hr9 => by simp only [List.mem_cons, List.not_mem_nil, or_false] at hr9; rcases hr9 with rfl | rfl | rfl | rfl | rfl | rfl | rfl; exact (hrx 20 (by decide) rfl); exact (hrx 13 (by decide) rfl); exact (hrx 14 (by decide) rfl); exact (hrx 15 (by decide) rfl); exact (hrx 16 (by decide) rfl); exact (hrx 17 (by decide) rfl); exact (hrx 18 (by decide) rfl)) _ (tbm2 q hq) j)),
      (TBj.km (TBj.kc (E' := E1) hR.tb3 rfl (hp.tb (J := 3) rfl)) (fun q hq j => (show ∀ r ∈ [24, 25, 26, 27, 28], ∀ j, xi (EM1 r) j = xi (EM r) j from fun r hr9 => by simp only [List.mem_cons, List.not_mem_nil, or_false] at hr9; rcases hr9 with rfl | rfl | rfl | rfl | rfl; exact (hrx 24 (by decide) rfl); exact (hrx 25 (by decide) rfl); exact (hrx 26 (by decide) rfl); exact (hrx 27 (by decide) rfl); exact (hrx 28 (by decide) rfl)) _ (tbm3 q hq) j)),
      (TBj.km (TBj.kc (E' := E1) hR.tb4 rfl (hp.tb (J := 4) rfl)) (fun q hq j => (show ∀ r ∈ [38, 39, 45, 40, 41, 42, 43, 44], ∀ j, xi (EM1 r) j = xi (EM r) j from fun r hr9 => by simp only [List.mem_cons, List.not_mem_nil, or_false] at hr9; rcases hr9 with rfl | rfl | rfl | rfl | rfl | rfl | rfl | rfl; exact (hrx 38 (by decide) rfl); exact (hrx 39 (by decide) rfl); exact (hrx 45 (by decide) rfl); exact (hrx 40 (by decide) rfl); exact (hrx 41 (by decide) rfl); exact (hrx 42 (by decide) rfl); exact (hrx 43 (by decide) rfl); exact (hrx 44 (by decide) rfl)) _ (tbm4 q hq) j)),
      (TBj.km (TBj.kc (E' := E1) hR.tb5 rfl (hp.tb (J := 5) rfl)) (fun q hq j => (show ∀ r ∈ [46, 47, 48, 49, 50], ∀ j, xi (EM1 r) j = xi (EM r) j from fun r hr9 => by simp only [List.mem_cons, List.not_mem_nil, or_false] at hr9; rcases hr9 with rfl | rfl | rfl | rfl | rfl; exact (hrx 46 (by decide) rfl); exact (hrx 47 (by decide) rfl); exact (hrx 48 (by decide) rfl); exact (hrx 49 (by decide) rfl); exact (hrx 50 (by decide) rfl)) _ (tbm5 q hq) j)),
      (hR.eb.kc rfl hn0 hb0 (fun i hi => hp 6 i 0 (by decide) (by decide) rfl hi) (fun i j hi => hp 7 i j (by decide) (by decide) rfl hi)),
      RD.km (RD.kc (E' := E1) hR.rd rfl hn0 (fun i j hi => hp 8 i j (by decide) (by decide) rfl hi)) (hsx 48 (by decide) rfl) (hrx 29 (by decide) rfl) (hrx 30 (by decide) rfl) (hrx 31 (by decide) rfl),
      hR.st.up (a := (xs (i + 1).toNatClampNeg)) (b := (xs (i + 2).toNatClampNeg)) (x := (xs (i + 3).toNatClampNeg)) (y := (xs (i + 4).toNatClampNeg)) g1.1.1 (by omega) g1.2.1.2 kk1 (fun i j hi => ⟨hk9 i j hi, hk10 i j hi⟩) u1 v1 u2 v2,
      SW.km (SW.kc (E' := E1) hR.sw rfl hn0 (fun i hi => hp 6 i 0 (by decide) (by decide) rfl hi) (fun i j hi => hp 11 i j (by decide) (by decide) rfl hi)) (hrx 19 (by decide) rfl),
      DC.km (DC.kc (E' := E1) hR.dc rfl hn0 (fun i j hi => hp 14 i j (by decide) (by decide) rfl hi)) (hrx 52 (by decide) rfl) (hrx 53 (by decide) rfl) (hrx 54 (by decide) rfl) (hrx 55 (by decide) rfl),
      (hR.tn0.kc rfl hn0 (hp.tn (J := 0) rfl)),
      (hR.tn2.kc rfl hn0 (hp.tn (J := 2) rfl)),
      (hR.tn3.kc rfl hn0 (hp.tn (J := 3) rfl)),
      (hR.tn4.kc rfl hn0 (hp.tn (J := 4) rfl)),
      (hR.tn5.kc rfl hn0 (hp.tn (J := 5) rfl)),
      (hR.rmo.kc rfl (fun i hi => hp 6 i 0 (by decide) (by decide) rfl hi)),
      (hR.er3.kc rfl (Nat.le_of_eq (rfl).symm) hst (hp.er (J := 3) rfl)),
      (hR.er4.kc rfl (Nat.le_of_eq (rfl).symm) hst (hp.er (J := 4) rfl)),
      (hR.er5.kc rfl (Nat.le_of_eq (rfl).symm) hst (hp.er (J := 5) rfl)),
      (hR.pne.kc rfl (fun i hi => hp 14 i 1 (by decide) (by decide) rfl hi) (fun i hi => hp 14 i 2 (by decide) (by decide) rfl hi)),
      DZ.km (DZ.kc (cf' := _) hR.dz (Nat.le_of_eq (rfl).symm)) (hrx 54 (by decide) rfl) (hrx 55 (by decide) rfl),
      RRo.km (RRo.kc (cf' := _) hR.rro (Nat.le_of_eq (rfl).symm)) (hsx 48 (by decide) rfl) (hrx 29 (by decide) rfl)⟩⟩
    · exfalso; have hp0 := hpn (xs (i + 2).toNatClampNeg) (by omega) (by omega); omega
    · exfalso; have hp0 := hpn (xs (i + 2).toNatClampNeg) (by omega) (by omega); omega
    · refine ⟨by rw [n1, n2], ?_⟩
      have hp0 : PK X0 cf E E1 := fun t9 i9 j9 ht hk1 _ hi => by
        by_cases h9 : t9 = 9 ∧ i9 = (xs (i + 1).toNatClampNeg).toNatClampNeg
        · obtain ⟨rfl, rfl⟩ := h9; exact congrFun u1 j9
        by_cases h10 : t9 = 10 ∧ i9 = (xs (i + 1).toNatClampNeg).toNatClampNeg
        · obtain ⟨rfl, rfl⟩ := h10; exact congrFun v1 j9
        exact xik hw1.2.1 (by simp [wl]; omega)
      exact hR.keep (fun _ _ _ => rfl) kk0 kk1 kk2 hp0 (kpS hw2.2.1 rfl) (kpRy [22, 23] (kpRx [22, 23] hw2.2.1 rfl) (fun r hq j => by simp only [List.mem_cons, List.not_mem_nil, or_false] at hq; rcases hq with rfl | rfl; exact (congrFun u2 j); exact (congrFun v2 j)))
  have hR := hd.2
  refine lv_pop hx hb dL_law_1696 rfl ?_
  refine lv_goto (tgt := 1859) hx hb dL_law_1697 (by decide) ?_
  exact W.widen (k := cn + 7) (n := sn + 3300) (by omega) (by omega) (tail _ _ _ _ _ _ _ _ V ⟨⟨⟨⟨⟨hR, hT⟩, hU⟩, hG⟩, hB⟩, hRS⟩ hl)
set_option maxHeartbeats 4000000 in
set_option maxRecDepth 100000 in
theorem law_case_34 {p : Program} {e : Env} {s : State} {m : MethodId} {below : List Frame} {meth : Method} {c : Code} (l : Launch) {b L : Nat} {xs : Nat → Int32} (hL : L ≤ 4096) (C0 : lw_At p s m meth c b L xs) {A : Nat → Prop} {ed : Nat} {dC : Nat → ClassId} {dI : Nat → Nat → Nat} {cT : Nat → ClassId} {cL : ClassId} (F : FX l s A ed dC dI cT cL) {x ou : Nat} {am cf ad : Nat → Nat} {E EM : Nat → va_E} {f : Nat → Int64} {H : Heap} {locs : List Loc} (V : INV s A ed dC dI cT cL x ou am cf ad E EM f H locs) (hR : REL15 cf E EM) {i : Int32} (hi0 : 0 ≤ i.toInt) (hi8 : i.toInt + 8 ≤ (L : Int)) {cn sn : Nat} (hcn : cn + 7 ≤ 601024) (hsn : sn + 3300 ≤ 7293034) (ls : Array Slot) (hl : lv_has ls 7 [(0, .ref b), (1, .ref x), (2, .ref (am 0)), (3, .ref ou), (4, .int i)]) (tail : (∀ (cf ad : Nat → Nat) (E EM : Nat → va_E) (f : Nat → Int64) (H : Heap) (locs : List Loc) (ls : Array Slot), INV s A ed dC dI cT cL x ou am cf ad E EM f H locs → REL15 cf E EM → lv_has ls 7 [(0, .ref b), (1, .ref x), (2, .ref (am 0)), (3, .ref ou), (4, .int i)] → W p l e room_1 s m #[Value.ref b] below meth c H locs (cn + 7) (sn + 3300) (lw_Z below #[Value.ref b] s) (F0 m 1859 ls []))) : W p l e room_1 s m #[Value.ref b] below meth c H locs cn sn (lw_Z below #[Value.ref b] s) (F0 m 1700 ls []) := by
  obtain ⟨hx, hb, hr, hml, hown, hts0, hX, hbl, hlocks, hgv⟩ := id C0
  have hts := fun w (h : w ∈ v_law) => hts0 w (v_law_in w h)
  have hbA : ¬ A b := F.hnA b hbl
  obtain rfl := V.hx
  obtain ⟨⟨⟨⟨⟨hR, hT⟩, hU⟩, hG⟩, hB⟩, hRS⟩ := hR
  refine lv_aload_n hx hb dL_law_1700 rfl (lv_at hl 1 rfl) ?_
  refine lv_aload_n hx hb dL_law_1701 rfl (lv_at hl 0 rfl) ?_
  refine lv_iload hx hb dL_law_1702 (lv_at hl 4 rfl) ?_
  refine lv_iconst (v := 1) hx hb dL_law_1704 (by decide) ?_
  refine lv_iadd hx hb dL_law_1705 ?_
  refine va_sld hx hb hX hbl hbA V.hS (law_in (k := 1) hi0 hi8 hL (by decide) rfl) dL_law_1706 ?_
  have hI0 := V.hI
  have hC0 := V.hC
  have hM0 := V.hM
  have bn : (0 : Int) ≤ (xi (E 1) 0).toInt ∧ (xi (E 1) 0).toInt ≤ 400 := hI0.iv 1 (mF 1 rfl) rfl (Nat.le_of_ble_eq_true rfl) rfl
  have bb : (0 : Int) ≤ (xi (E 1) 1).toInt ∧ (xi (E 1) 1).toInt ≤ 16 := hI0.iv 1 (mF 1 rfl) rfl (Nat.le_of_ble_eq_true rfl) rfl
  obtain ⟨⟨k0, k1, k2, k3, k4, k5⟩, -⟩ := id hC0
  refine lC F V (fun r u h => h.1) (va_runV (As := [.int (xs (i + 1).toNatClampNeg)]) (rest := []) ⟨hx, hb, hml, hown, hts⟩ (q_u_leanX l dC dI cT cf V.hC ad E H.size (xs (i + 1).toNatClampNeg) V.hI) (cwV 1 hts (gl_V (al_5 _ (zs4 (zs0))) (al_5 _ (zs4 (zs1 (zs0)))) (al_5 _ (zs4 (zs1 (zs1 (zs0))))) (vl_A _ (in_4 _ (zs16 (zs4 (zs1 (zs1 (zs1 (zs0)))))))) (vl_A _ (in_19 _ (zs16 (zs4 (zs4 (zs1 (zs1 (zs1 (zs0)))))))))) rfl rfl rfl ⟨rfl, hz_yX12_lean_1⟩ ⟨Nat.le_of_ble_eq_true rfl, Nat.le_of_ble_eq_true rfl⟩) ⟨HWL_bl, va_recv F.kc V.cp (ci := 13) (q0 := posL 0 (LC cf)) rfl (V.hI.ob 0 (mF 0 rfl) rfl), HWL_wi V.cp F.kc V.dc V.hS F.hA (V.ec F)⟩ rfl rfl hl.1 rfl (lv_room (Nat.le_of_ble_eq_true rfl)) dL_law_1707 ⟨by show cn + 0 ≤ 601024; omega, by show sn + 0 ≤ 7293034; omega⟩) (fun r1 E1 H locs hw1 V => ?_)
  have hcf : ∀ j, j < 6 → j ≠ 1 → cf j = cf j := fun _ _ _ => rfl
  have k6 : xi (E1 1) 0 = xi (E 1) 0 := xik hw1.2.1 (o := 1) (j := 0) (by first | rfl | (simp [wl]; done) | (simp [wl]; omega))
  have k7 : xi (E1 1) 1 = xi (E 1) 1 := xik hw1.2.1 (o := 1) (j := 1) (by first | rfl | (simp [wl]; done) | (simp [wl]; omega))
  have k8 : xi (E1 1) 2 = xi (E 1) 2 := xik hw1.2.1 (o := 1) (j := 2) (by first | rfl | (simp [wl]; done) | (simp [wl]; omega))
  have hp : PK X0 cf E E1 := fun t i j _ _ _ _ => xik hw1.2.1 (by first | exact wl_p rfl rfl (by omega) | (simp [wl]; done) | (simp [wl]; omega))
  refine lv_pop hx hb dL_law_1710 rfl ?_
  refine lv_aload_n hx hb dL_law_1711 rfl (lv_at hl 2 rfl) ?_
  refine lv_aload_n hx hb dL_law_1712 rfl (lv_at hl 0 rfl) ?_
  refine lv_iload hx hb dL_law_1713 (lv_at hl 4 rfl) ?_
  refine lv_iconst (v := 1) hx hb dL_law_1715 (by decide) ?_
  refine lv_iadd hx hb dL_law_1716 ?_
  refine va_sld hx hb hX hbl hbA V.hS (law_in (k := 1) hi0 hi8 hL (by decide) rfl) dL_law_1717 ?_
  refine lM F V (fun r u h => ⟨h.1, DIr_kp h.2.1 (fun _ => rfl) (fun _ => rfl) V.hDI⟩) (va_runV (As := [.int (xs (i + 1).toNatClampNeg)]) (rest := []) ⟨hx, hb, hml, hown, hts⟩ (q_leanX l dC dI cT am EM H.size (xs (i + 1).toNatClampNeg) V.hM) (cwV 1 hts (gl_V (al_5 _ (zs4 (zs1 (zs1 (zs1 (zs0)))))) (al_5 _ (zs4 (zs4 (zs0)))) (al_5 _ (zs4 (zs4 (zs1 (zs0))))) (vl_A _ (in_24 _ (zs4 (zs4 (zs4 (zs1 (zs1 (zs1 (zs0))))))))) (vl_A _ (in_32 _ (zs16 (zs4 (zs4 (zs1 (zs0)))))))) rfl rfl rfl ⟨rfl, hz_yX13_lean_1⟩ ⟨Nat.le_of_ble_eq_true rfl, Nat.le_of_ble_eq_true rfl⟩) ⟨HW_bl, va_recv F.km V.pm (ci := 14) (q0 := 0) rfl (V.hM.ob 0 (Nat.le_of_ble_eq_true rfl) rfl), HW_wi V.pm F.km V.dm V.hS F.hA F.hEV⟩ rfl rfl hl.1 rfl (lv_room (Nat.le_of_ble_eq_true rfl)) dL_law_1718 ⟨by show cn + 0 ≤ 601024; omega, by show sn + 0 ≤ 7293034; omega⟩) (fun r2 EM1 H locs hw2 V => ?_)
  have hRS := hRS.keep (cf' := cf) (E' := E1) rfl (fun i9 _ => xik hw1.2.1 (o := 64 * (i9 + 1) + 12) (j := 2) (by first | exact wl_p rfl rfl (by omega) | (simp [wl]; done) | (simp [wl]; omega))) (fun i9 _ => xik hw1.2.1 (o := 64 * (i9 + 1) + 12) (j := 3) (by first | exact wl_p rfl rfl (by omega) | (simp [wl]; done) | (simp [wl]; omega)))
  have hb9 : (xi (E 1) 1).toInt ≤ (xi (E1 1) 1).toInt := by rw [show xi (E1 1) 1 = xi (E 1) 1 from xik hw1.2.1 (o := 1) (j := 1) (by first | rfl | (simp [wl]; done) | (simp [wl]; omega))]; exact Int.le_refl _
  have hB := hB.keep (cf' := cf) (E' := E1) rfl hb9 (fun i9 _ => xik hw1.2.1 (o := 64 * (i9 + 1) + 0) (j := 0) (by first | exact wl_p rfl rfl (by omega) | (simp [wl]; done) | (simp [wl]; omega)))
  have hT := hT.keep (cf' := cf) (E' := E1) rfl (xik hw1.2.1 (o := 2) (j := 1) (by first | rfl | (simp [wl]; done) | (simp [wl]; omega))) (fun j9 => xik hw1.2.1 (o := 21) (j := j9) (by first | rfl | (simp [wl]; done) | (simp [wl]; omega))) (fun i9 j9 _ => xik hw1.2.1 (o := 64 * (i9 + 1) + 1) (j := j9) (by first | exact wl_p rfl rfl (by omega) | (simp [wl]; done) | (simp [wl]; omega))) (xik hw2.2.1 (o := 0) (j := 16) rfl) (xik hw2.2.1 (o := 0) (j := 17) rfl) (fun j9 => xik hw2.2.1 (o := 7) (j := j9) rfl) (fun j9 => xik hw2.2.1 (o := 10) (j := j9) rfl) (fun j9 => xik hw2.2.1 (o := 11) (j := j9) rfl)
  have hU := hU.keep (cf' := cf) (E' := E1) rfl (fun _ _ => ⟨rfl, rfl⟩) (fun i9 _ t9 _ _ j9 => xik hw1.2.1 (o := 64 * (i9 + 1) + t9) (j := j9) (by first | exact wl_p rfl rfl (by omega) | (simp [wl]; done) | (simp [wl]; omega))) (fun j9 => xik hw2.2.1 (o := 8) (j := j9) rfl) (fun j9 => xik hw2.2.1 (o := 9) (j := j9) rfl)
  have hG := hG.keep (cf' := cf) (E' := E1) rfl (fun i9 j9 _ => xik hw1.2.1 (o := 64 * (i9 + 1) + 14) (j := j9) (by first | exact wl_p rfl rfl (by omega) | (simp [wl]; done) | (simp [wl]; omega))) (fun j9 => xik hw2.2.1 (o := 51) (j := j9) rfl)
  have e0 : (xi (E 1) 0).toInt = (xi (EM 0) 1).toInt := congrArg Int32.toInt hR.now
  have e1 : (xi (E 1) 1).toInt = (xi (EM 0) 8).toInt := congrArg Int32.toInt hR.boats
  have e2 : (xi (E 1) 2).toInt = (xi (EM 0) 48).toInt := congrArg Int32.toInt hR.red
  obtain ⟨q0, q2, q3, q4, q5⟩ := hR.cnt
  have lm : (-1 : Int32).toInt = -1 := rfl
  have l0 : (0 : Int32).toInt = 0 := rfl
  have l1 : (1 : Int32).toInt = 1 := rfl
  have l2 : (2 : Int32).toInt = 2 := rfl
  have lk : (1000 : Int32).toInt = 1000 := rfl
  have hd : r1.toInt = r2.toInt ∧ True := by
    obtain ⟨-, -, p1, p2⟩ := hw1
    obtain ⟨-, -, m1, m2⟩ := hw2
    by_cases q : 0 ≤ (xs (i + 1).toNatClampNeg).toInt ∧ (xs (i + 1).toNatClampNeg).toInt < ((cf 2 : Nat) : Int)
    · have h1 := p1 q; have h2 := m1 (by omega)
      have hi : (xs (i + 1).toNatClampNeg).toNatClampNeg < cf 2 := by rw [tn_ (xs (i + 1).toNatClampNeg)]; omega
      have hB : (16 * (xs (i + 1).toNatClampNeg).toInt).toNat = 16 * (xs (i + 1).toNatClampNeg).toNatClampNeg := by rw [tn_ (xs (i + 1).toNatClampNeg)]; omega
      refine ⟨congrArg Int32.toInt ((h1.trans ?_).trans h2.symm), trivial⟩
      refine ln_mn (by rw [tn_]; omega) (fun b hb => rowb9 hC0 hI0 hi hb) (fun b hb => rowb10 hC0 hI0 hi hb) (fun b hb => by rw [hB]; exact (hR.st _ b hi hb).1) (fun b hb hne => by rw [hB]; exact ((hR.st _ b hi hb).2 hne).1) (fun b h8 h9 => ?_)
      by_cases hne : (xi (E (64 * ((xs (i + 1).toNatClampNeg).toNatClampNeg + 1) + 9)) b).toInt = -1
      · exact hne
      · exfalso; have h7 := ((hR.st _ b hi h9).2 hne).2; rw [tn_] at h8; omega
    · have h1 := p2 q; have h2 := m2 (by omega); exact ⟨by rw [h1, h2], trivial⟩
  have hR := hR.keep hcf k6 k7 k8 hp (kpS hw2.2.1 rfl) (kpR hw2.2.1 rfl)
  refine lv_pop hx hb dL_law_1721 rfl ?_
  refine lv_goto (tgt := 1859) hx hb dL_law_1722 (by decide) ?_
  exact W.widen (k := cn + 7) (n := sn + 3300) (by omega) (by omega) (tail _ _ _ _ _ _ _ _ V ⟨⟨⟨⟨⟨hR, hT⟩, hU⟩, hG⟩, hB⟩, hRS⟩ hl)
set_option maxHeartbeats 4000000 in
set_option maxRecDepth 100000 in
theorem law_case_35 {p : Program} {e : Env} {s : State} {m : MethodId} {below : List Frame} {meth : Method} {c : Code} (l : Launch) {b L : Nat} {xs : Nat → Int32} (hL : L ≤ 4096) (C0 : lw_At p s m meth c b L xs) {A : Nat → Prop} {ed : Nat} {dC : Nat → ClassId} {dI : Nat → Nat → Nat} {cT : Nat → ClassId} {cL : ClassId} (F : FX l s A ed dC dI cT cL) {x ou : Nat} {am cf ad : Nat → Nat} {E EM : Nat → va_E} {f : Nat → Int64} {H : Heap} {locs : List Loc} (V : INV s A ed dC dI cT cL x ou am cf ad E EM f H locs) (hR : REL15 cf E EM) {i : Int32} (hi0 : 0 ≤ i.toInt) (hi8 : i.toInt + 8 ≤ (L : Int)) {cn sn : Nat} (hcn : cn + 7 ≤ 601024) (hsn : sn + 3300 ≤ 7293034) (ls : Array Slot) (hl : lv_has ls 7 [(0, .ref b), (1, .ref x), (2, .ref (am 0)), (3, .ref ou), (4, .int i)]) (tail : (∀ (cf ad : Nat → Nat) (E EM : Nat → va_E) (f : Nat → Int64) (H : Heap) (locs : List Loc) (ls : Array Slot), INV s A ed dC dI cT cL x ou am cf ad E EM f H locs → REL15 cf E EM → lv_has ls 7 [(0, .ref b), (1, .ref x), (2, .ref (am 0)), (3, .ref ou), (4, .int i)] → W p l e room_1 s m #[Value.ref b] below meth c H locs (cn + 7) (sn + 3300) (lw_Z below #[Value.ref b] s) (F0 m 1859 ls []))) : W p l e room_1 s m #[Value.ref b] below meth c H locs cn sn (lw_Z below #[Value.ref b] s) (F0 m 1725 ls []) := by
  obtain ⟨hx, hb, hr, hml, hown, hts0, hX, hbl, hlocks, hgv⟩ := id C0
  have hts := fun w (h : w ∈ v_law) => hts0 w (v_law_in w h)
  have hbA : ¬ A b := F.hnA b hbl
  obtain rfl := V.hx
  obtain ⟨⟨⟨⟨⟨hR, hT⟩, hU⟩, hG⟩, hB⟩, hRS⟩ := hR
  refine lv_aload_n hx hb dL_law_1725 rfl (lv_at hl 1 rfl) ?_
  refine lv_aload_n hx hb dL_law_1726 rfl (lv_at hl 0 rfl) ?_
  refine lv_iload hx hb dL_law_1727 (lv_at hl 4 rfl) ?_
  refine lv_iconst (v := 1) hx hb dL_law_1729 (by decide) ?_
  refine lv_iadd hx hb dL_law_1730 ?_
  refine va_sld hx hb hX hbl hbA V.hS (law_in (k := 1) hi0 hi8 hL (by decide) rfl) dL_law_1731 ?_
  refine lv_aload_n hx hb dL_law_1732 rfl (lv_at hl 0 rfl) ?_
  refine lv_iload hx hb dL_law_1733 (lv_at hl 4 rfl) ?_
  refine lv_iconst (v := 2) hx hb dL_law_1735 (by decide) ?_
  refine lv_iadd hx hb dL_law_1736 ?_
  refine va_sld hx hb hX hbl hbA V.hS (law_in (k := 2) hi0 hi8 hL (by decide) rfl) dL_law_1737 ?_
  refine lv_i2l hx hb dL_law_1738 rfl ?_
  refine lv_bipush (v := 32) hx hb dL_law_1739 (by decide) ?_
  refine lv_lshl (v := _) hx hb dL_law_1741 rfl ?_
  refine lv_aload_n hx hb dL_law_1742 rfl (lv_at hl 0 rfl) ?_
  refine lv_iload hx hb dL_law_1743 (lv_at hl 4 rfl) ?_
  refine lv_iconst (v := 3) hx hb dL_law_1745 (by decide) ?_
  refine lv_iadd hx hb dL_law_1746 ?_
  refine va_sld hx hb hX hbl hbA V.hS (law_in (k := 3) hi0 hi8 hL (by decide) rfl) dL_law_1747 ?_
  refine lv_i2l hx hb dL_law_1748 rfl ?_
  refine lv_ldc2 hx hb hown (hts _ (al_5 _ (zs4 (zs4 (zs1 (zs1 (zs0))))))) dL_law_1749 ?_
  refine lv_land hx hb dL_law_1752 ?_
  refine lv_lor hx hb dL_law_1753 ?_
  have hI0 := V.hI
  have hC0 := V.hC
  have hM0 := V.hM
  have bn : (0 : Int) ≤ (xi (E 1) 0).toInt ∧ (xi (E 1) 0).toInt ≤ 400 := hI0.iv 1 (mF 1 rfl) rfl (Nat.le_of_ble_eq_true rfl) rfl
  have bb : (0 : Int) ≤ (xi (E 1) 1).toInt ∧ (xi (E 1) 1).toInt ≤ 16 := hI0.iv 1 (mF 1 rfl) rfl (Nat.le_of_ble_eq_true rfl) rfl
  obtain ⟨⟨k0, k1, k2, k3, k4, k5⟩, -⟩ := id hC0
  refine lC F V (fun r u h => h.1) (va_runV (As := [.int (xs (i + 1).toNatClampNeg), .long ((((xs (i + 2).toNatClampNeg).toInt64) <<< ((32 : Int32).toInt64 &&& 63)) ||| (((xs (i + 3).toNatClampNeg).toInt64) &&& ((4294967295))))]) (rest := []) ⟨hx, hb, hml, hown, hts⟩ (q_u_drawX l dC dI cT cf V.hC ad E H.size (xs (i + 1).toNatClampNeg) ((((xs (i + 2).toNatClampNeg).toInt64) <<< ((32 : Int32).toInt64 &&& 63)) ||| (((xs (i + 3).toNatClampNeg).toInt64) &&& ((4294967295)))) V.hI hU.1) (cwV 2 hts (gl_V (al_5 _ (zs4 (zs4 (zs1 (zs1 (zs1 (zs0))))))) (al_5 _ (zs4 (zs4 (zs4 (zs0))))) (al_5 _ (zs4 (zs4 (zs4 (zs1 (zs0)))))) (vl_A _ (in_4 _ (zs16 (zs4 (zs1 (zs1 (zs1 (zs0)))))))) (vl_A _ (in_16 _ (zs16 (zs16 (zs0)))))) rfl rfl rfl ⟨rfl, hz_yX12_draw_2⟩ ⟨Nat.le_of_ble_eq_true rfl, Nat.le_of_ble_eq_true rfl⟩) ⟨HWL_bl, va_recv F.kc V.cp (ci := 13) (q0 := posL 0 (LC cf)) rfl (V.hI.ob 0 (mF 0 rfl) rfl), HWL_wi V.cp F.kc V.dc V.hS F.hA (V.ec F)⟩ rfl rfl hl.1 rfl (lv_room (Nat.le_of_ble_eq_true rfl)) dL_law_1754 ⟨by show cn + 0 ≤ 601024; omega, by show sn + 0 ≤ 7293034; omega⟩) (fun r1 E1 H locs hw1 V => ?_)
  have hcf : ∀ j, j < 6 → j ≠ 1 → cf j = cf j := fun _ _ _ => rfl
  have k6 : xi (E1 1) 0 = xi (E 1) 0 := xik hw1.2.1 (o := 1) (j := 0) (by first | rfl | (simp [wl]; done) | (simp [wl]; omega))
  have k7 : xi (E1 1) 1 = xi (E 1) 1 := xik hw1.2.1 (o := 1) (j := 1) (by first | rfl | (simp [wl]; done) | (simp [wl]; omega))
  have k8 : xi (E1 1) 2 = xi (E 1) 2 := xik hw1.2.1 (o := 1) (j := 2) (by first | rfl | (simp [wl]; done) | (simp [wl]; omega))
  have hp : PK X0 cf E E1 := fun t i j _ _ _ _ => xik hw1.2.1 (by first | exact wl_p rfl rfl (by omega) | (simp [wl]; done) | (simp [wl]; omega))
  refine lv_pop hx hb dL_law_1757 rfl ?_
  refine lv_aload_n hx hb dL_law_1758 rfl (lv_at hl 2 rfl) ?_
  refine lv_aload_n hx hb dL_law_1759 rfl (lv_at hl 0 rfl) ?_
  refine lv_iload hx hb dL_law_1760 (lv_at hl 4 rfl) ?_
  refine lv_iconst (v := 1) hx hb dL_law_1762 (by decide) ?_
  refine lv_iadd hx hb dL_law_1763 ?_
  refine va_sld hx hb hX hbl hbA V.hS (law_in (k := 1) hi0 hi8 hL (by decide) rfl) dL_law_1764 ?_
  refine lv_aload_n hx hb dL_law_1765 rfl (lv_at hl 0 rfl) ?_
  refine lv_iload hx hb dL_law_1766 (lv_at hl 4 rfl) ?_
  refine lv_iconst (v := 2) hx hb dL_law_1768 (by decide) ?_
  refine lv_iadd hx hb dL_law_1769 ?_
  refine va_sld hx hb hX hbl hbA V.hS (law_in (k := 2) hi0 hi8 hL (by decide) rfl) dL_law_1770 ?_
  refine lv_i2l hx hb dL_law_1771 rfl ?_
  refine lv_bipush (v := 32) hx hb dL_law_1772 (by decide) ?_
  refine lv_lshl (v := _) hx hb dL_law_1774 rfl ?_
  refine lv_aload_n hx hb dL_law_1775 rfl (lv_at hl 0 rfl) ?_
  refine lv_iload hx hb dL_law_1776 (lv_at hl 4 rfl) ?_
  refine lv_iconst (v := 3) hx hb dL_law_1778 (by decide) ?_
  refine lv_iadd hx hb dL_law_1779 ?_
  refine va_sld hx hb hX hbl hbA V.hS (law_in (k := 3) hi0 hi8 hL (by decide) rfl) dL_law_1780 ?_
  refine lv_i2l hx hb dL_law_1781 rfl ?_
  refine lv_ldc2 hx hb hown (hts _ (al_5 _ (zs4 (zs4 (zs1 (zs1 (zs0))))))) dL_law_1782 ?_
  refine lv_land hx hb dL_law_1785 ?_
  refine lv_lor hx hb dL_law_1786 ?_
  refine lM F V (fun r u h => ⟨h.1, DIr_kp h.2.1 (fun _ => rfl) (fun _ => rfl) V.hDI⟩) (va_runV (As := [.int (xs (i + 1).toNatClampNeg), .long ((((xs (i + 2).toNatClampNeg).toInt64) <<< ((32 : Int32).toInt64 &&& 63)) ||| (((xs (i + 3).toNatClampNeg).toInt64) &&& ((4294967295))))]) (rest := []) ⟨hx, hb, hml, hown, hts⟩ (q_drawM l dC dI cT am EM H.size (xs (i + 1).toNatClampNeg) ((((xs (i + 2).toNatClampNeg).toInt64) <<< ((32 : Int32).toInt64 &&& 63)) ||| (((xs (i + 3).toNatClampNeg).toInt64) &&& ((4294967295)))) V.hM (hU.ru hT).txm) (cwV 2 hts (gl_V (al_5 _ (zs4 (zs4 (zs4 (zs1 (zs1 (zs0))))))) (al_5 _ (zs4 (zs4 (zs4 (zs1 (zs1 (zs1 (zs0)))))))) (al_5 _ (zs16 (zs0))) (vl_A _ (in_24 _ (zs4 (zs4 (zs4 (zs1 (zs1 (zs1 (zs0))))))))) (vl_A _ (in_31 _ (zs4 (zs4 (zs1 (zs1 (zs0)))))))) rfl rfl rfl ⟨rfl, hz_yX13_draw_2⟩ ⟨Nat.le_of_ble_eq_true rfl, Nat.le_of_ble_eq_true rfl⟩) ⟨HW_bl, va_recv F.km V.pm (ci := 14) (q0 := 0) rfl (V.hM.ob 0 (Nat.le_of_ble_eq_true rfl) rfl), HW_wi V.pm F.km V.dm V.hS F.hA F.hEV⟩ rfl rfl hl.1 rfl (lv_room (Nat.le_of_ble_eq_true rfl)) dL_law_1787 ⟨by show cn + 0 ≤ 601024; omega, by show sn + 0 ≤ 7293034; omega⟩) (fun r2 EM1 H locs hw2 V => ?_)
  have hRS := hRS.keep (cf' := cf) (E' := E1) rfl (fun i9 _ => xik hw1.2.1 (o := 64 * (i9 + 1) + 12) (j := 2) (by first | exact wl_p rfl rfl (by omega) | (simp [wl]; done) | (simp [wl]; omega))) (fun i9 _ => xik hw1.2.1 (o := 64 * (i9 + 1) + 12) (j := 3) (by first | exact wl_p rfl rfl (by omega) | (simp [wl]; done) | (simp [wl]; omega)))
  have hG9 := hG
  have hT9 := hT
  have hU9 := hU
  have hb9 : (xi (E 1) 1).toInt ≤ (xi (E1 1) 1).toInt := by rw [show xi (E1 1) 1 = xi (E 1) 1 from xik hw1.2.1 (o := 1) (j := 1) (by first | rfl | (simp [wl]; done) | (simp [wl]; omega))]; exact Int.le_refl _
  have hB9 := hB
  have hB := hB.keep (cf' := cf) (E' := E1) rfl hb9 (fun i9 _ => xik hw1.2.1 (o := 64 * (i9 + 1) + 0) (j := 0) (by first | exact wl_p rfl rfl (by omega) | (simp [wl]; done) | (simp [wl]; omega)))
  have hT := hT.keep (cf' := cf) (E' := E1) rfl (xik hw1.2.1 (o := 2) (j := 1) (by first | rfl | (simp [wl]; done) | (simp [wl]; omega))) (fun j9 => xik hw1.2.1 (o := 21) (j := j9) (by first | rfl | (simp [wl]; done) | (simp [wl]; omega))) (fun i9 j9 _ => xik hw1.2.1 (o := 64 * (i9 + 1) + 1) (j := j9) (by first | exact wl_p rfl rfl (by omega) | (simp [wl]; done) | (simp [wl]; omega))) (xik hw2.2.1 (o := 0) (j := 16) rfl) (xik hw2.2.1 (o := 0) (j := 17) rfl) (fun j9 => xik hw2.2.1 (o := 7) (j := j9) rfl) (fun j9 => xik hw2.2.1 (o := 10) (j := j9) rfl) (fun j9 => xik hw2.2.1 (o := 11) (j := j9) rfl)
  have hU := hU.keep (cf' := cf) (E' := E1) rfl (fun _ _ => ⟨rfl, rfl⟩) (fun i9 _ t9 _ _ j9 => xik hw1.2.1 (o := 64 * (i9 + 1) + t9) (j := j9) (by first | exact wl_p rfl rfl (by omega) | (simp [wl]; done) | (simp [wl]; omega))) (fun j9 => xik hw2.2.1 (o := 8) (j := j9) rfl) (fun j9 => xik hw2.2.1 (o := 9) (j := j9) rfl)
  have hG := hG.keep (cf' := cf) (E' := E1) rfl (fun i9 j9 _ => xik hw1.2.1 (o := 64 * (i9 + 1) + 14) (j := j9) (by first | exact wl_p rfl rfl (by omega) | (simp [wl]; done) | (simp [wl]; omega))) (fun j9 => xik hw2.2.1 (o := 51) (j := j9) rfl)
  have e0 : (xi (E 1) 0).toInt = (xi (EM 0) 1).toInt := congrArg Int32.toInt hR.now
  have e1 : (xi (E 1) 1).toInt = (xi (EM 0) 8).toInt := congrArg Int32.toInt hR.boats
  have e2 : (xi (E 1) 2).toInt = (xi (EM 0) 48).toInt := congrArg Int32.toInt hR.red
  obtain ⟨q0, q2, q3, q4, q5⟩ := hR.cnt
  have lm : (-1 : Int32).toInt = -1 := rfl
  have l0 : (0 : Int32).toInt = 0 := rfl
  have l1 : (1 : Int32).toInt = 1 := rfl
  have l2 : (2 : Int32).toInt = 2 := rfl
  have lk : (1000 : Int32).toInt = 1000 := rfl
  have hd : r1.toInt = r2.toInt ∧ True := by
    obtain ⟨-, -, p1⟩ := id hw1
    obtain ⟨-, -, m1⟩ := id hw2
    rw [← hR.now] at m1
    exact ⟨congrArg Int32.toInt (dw_eq hR hG9 (hU9.ru hT9) hB9 hM0 (by omega) (by omega) (by omega) (by omega) bb bn p1 m1), trivial⟩
  have hR := hR.keep hcf k6 k7 k8 hp (kpS hw2.2.1 rfl) (kpR hw2.2.1 rfl)
  refine lv_pop hx hb dL_law_1790 rfl ?_
  refine lv_goto (tgt := 1859) hx hb dL_law_1791 (by decide) ?_
  exact W.widen (k := cn + 7) (n := sn + 3300) (by omega) (by omega) (tail _ _ _ _ _ _ _ _ V ⟨⟨⟨⟨⟨hR, hT⟩, hU⟩, hG⟩, hB⟩, hRS⟩ hl)
set_option maxHeartbeats 4000000 in
set_option maxRecDepth 100000 in
theorem law_case_36 {p : Program} {e : Env} {s : State} {m : MethodId} {below : List Frame} {meth : Method} {c : Code} (l : Launch) {b L : Nat} {xs : Nat → Int32} (hL : L ≤ 4096) (C0 : lw_At p s m meth c b L xs) {A : Nat → Prop} {ed : Nat} {dC : Nat → ClassId} {dI : Nat → Nat → Nat} {cT : Nat → ClassId} {cL : ClassId} (F : FX l s A ed dC dI cT cL) {x ou : Nat} {am cf ad : Nat → Nat} {E EM : Nat → va_E} {f : Nat → Int64} {H : Heap} {locs : List Loc} (V : INV s A ed dC dI cT cL x ou am cf ad E EM f H locs) (hR : REL15 cf E EM) {i : Int32} (hi0 : 0 ≤ i.toInt) (hi8 : i.toInt + 8 ≤ (L : Int)) {cn sn : Nat} (hcn : cn + 7 ≤ 601024) (hsn : sn + 3300 ≤ 7293034) (ls : Array Slot) (hl : lv_has ls 7 [(0, .ref b), (1, .ref x), (2, .ref (am 0)), (3, .ref ou), (4, .int i)]) (tail : (∀ (cf ad : Nat → Nat) (E EM : Nat → va_E) (f : Nat → Int64) (H : Heap) (locs : List Loc) (ls : Array Slot), INV s A ed dC dI cT cL x ou am cf ad E EM f H locs → REL15 cf E EM → lv_has ls 7 [(0, .ref b), (1, .ref x), (2, .ref (am 0)), (3, .ref ou), (4, .int i)] → W p l e room_1 s m #[Value.ref b] below meth c H locs (cn + 7) (sn + 3300) (lw_Z below #[Value.ref b] s) (F0 m 1859 ls []))) : W p l e room_1 s m #[Value.ref b] below meth c H locs cn sn (lw_Z below #[Value.ref b] s) (F0 m 1794 ls []) := by
  obtain ⟨hx, hb, hr, hml, hown, hts0, hX, hbl, hlocks, hgv⟩ := id C0
  have hts := fun w (h : w ∈ v_law) => hts0 w (v_law_in w h)
  have hbA : ¬ A b := F.hnA b hbl
  obtain rfl := V.hx
  obtain ⟨⟨⟨⟨⟨hR, hT⟩, hU⟩, hG⟩, hB⟩, hRS⟩ := hR
  refine lv_aload_n hx hb dL_law_1794 rfl (lv_at hl 1 rfl) ?_
  refine lv_aload_n hx hb dL_law_1795 rfl (lv_at hl 0 rfl) ?_
  refine lv_iload hx hb dL_law_1796 (lv_at hl 4 rfl) ?_
  refine lv_iconst (v := 1) hx hb dL_law_1798 (by decide) ?_
  refine lv_iadd hx hb dL_law_1799 ?_
  refine va_sld hx hb hX hbl hbA V.hS (law_in (k := 1) hi0 hi8 hL (by decide) rfl) dL_law_1800 ?_
  refine lv_aload_n hx hb dL_law_1801 rfl (lv_at hl 0 rfl) ?_
  refine lv_iload hx hb dL_law_1802 (lv_at hl 4 rfl) ?_
  refine lv_iconst (v := 2) hx hb dL_law_1804 (by decide) ?_
  refine lv_iadd hx hb dL_law_1805 ?_
  refine va_sld hx hb hX hbl hbA V.hS (law_in (k := 2) hi0 hi8 hL (by decide) rfl) dL_law_1806 ?_
  refine lv_aload_n hx hb dL_law_1807 rfl (lv_at hl 3 rfl) ?_
  refine lT F V (vx_runSW (hh := [(0, 10, 13, 13)]) (As := [.ref (ad 0), .int (xs (i + 1).toNatClampNeg), .int (xs (i + 2).toNatClampNeg), .ref ou]) (rest := []) ⟨hx, hb, hml, hown, hts⟩ (l_toldX l F.hfl dC dI cT cf V.hC ad E H.size (xs (i + 1).toNatClampNeg) (xs (i + 2).toNatClampNeg) ou cL f V.hI) (vx_cwSW 4 hts gl_told rfl rfl rfl (by decide +kernel) ⟨Nat.le_of_ble_eq_true rfl, Nat.le_of_ble_eq_true rfl⟩) ⟨fun a U g mk q => ⟨q.1, q.2.1, q.2.2.1, va_K.moved (u := U) (U := U.calling g mk a) (Vm.Alike.refl U.vm) q.2.2.2.1, q.2.2.2.2.1, EVC_c q.2.2.2.2.2.1, ub_EX_c q.2.2.2.2.2.2⟩, fun U hU hW => ⟨rfl, by rw [hU], by rw [hU]; exact V.pt, va_K.moved hW.alike F.hK, V.dt.weaken (fun _ _ _ _ => trivial), EVC_w hU hW V.hS (all_free V.dt V.hS F.hA) (V.ec F), ub_EX_w hU hW V.hS (all_free V.dt V.hS F.hA) F.hEX⟩⟩ rfl rfl hl.1 rfl (lv_room (Nat.le_of_ble_eq_true rfl)) dL_law_1808 ⟨by show cn + 1 ≤ 601024; omega, by show sn + 6 ≤ 7293034; omega⟩) (fun r1 f H locs hw1 V => ?_)
  refine lv_istore (lv' := [(5, .int r1), (0, .ref b), (1, .ref (ad 0)), (2, .ref (am 0)), (3, .ref ou), (4, .int i)]) hx hb dL_law_1811 hl (by decide) rfl (fun ls hl => ?_)
  refine lv_aload_n hx hb dL_law_1813 rfl (lv_at hl 3 rfl) ?_
  refine lv_aload_n hx hb dL_law_1814 rfl (lv_at hl 1 rfl) ?_
  refine lv_iload hx hb dL_law_1815 (lv_at hl 5 rfl) ?_
  refine lv_iconst (v := 1) hx hb dL_law_1817 (by decide) ?_
  refine lv_iadd hx hb dL_law_1818 ?_
  refine va_sld hx hb hX hbl hbA V.hS (law_in (k := 1) hi0 hi8 hL (by decide) rfl) dL_law_1819 ?_
  refine lv_aload_n hx hb dL_law_1820 rfl (lv_at hl 1 rfl) ?_
  refine lv_iload hx hb dL_law_1821 (lv_at hl 5 rfl) ?_
  refine lv_iconst (v := 2) hx hb dL_law_1823 (by decide) ?_
  refine lv_iadd hx hb dL_law_1824 ?_
  refine va_sld hx hb hX hbl hbA V.hS (law_in (k := 2) hi0 hi8 hL (by decide) rfl) dL_law_1825 ?_
  refine lM F V (fun r u h => ⟨h.1, DIr_kp h.2.1 (fun _ => rfl) (fun _ => rfl) V.hDI⟩) (va_runV (As := [.int (xs (i + 1).toNatClampNeg), .int (xs (i + 2).toNatClampNeg)]) (rest := []) ⟨hx, hb, hml, hown, hts⟩ (q_toldX l dC dI cT am EM H.size (xs (i + 1).toNatClampNeg) (xs (i + 2).toNatClampNeg) V.hM) (cwV 2 hts (gl_V (al_5 _ (zs16 (zs1 (zs0)))) (al_5 _ (zs16 (zs1 (zs1 (zs0))))) (al_5 _ (zs16 (zs1 (zs1 (zs1 (zs0)))))) (vl_A _ (in_24 _ (zs4 (zs4 (zs4 (zs1 (zs1 (zs1 (zs0))))))))) (vl_A _ (in_33 _ (zs16 (zs16 (zs4 (zs0))))))) rfl rfl rfl ⟨rfl, hz_yX13_told_2⟩ ⟨Nat.le_of_ble_eq_true rfl, Nat.le_of_ble_eq_true rfl⟩) ⟨HW_bl, va_recv F.km V.pm (ci := 14) (q0 := 0) rfl (V.hM.ob 0 (Nat.le_of_ble_eq_true rfl) rfl), HW_wi V.pm F.km V.dm V.hS F.hA F.hEV⟩ rfl rfl hl.1 rfl (lv_room (Nat.le_of_ble_eq_true rfl)) dL_law_1826 ⟨by show cn + 1 + 0 ≤ 601024; omega, by show sn + 6 + 0 ≤ 7293034; omega⟩) (fun r2 EM1 H locs hw2 V => ?_)
  have hT := hT.keep (cf' := cf) rfl rfl (fun _ => rfl) (fun _ _ _ => rfl) (xik hw2.2.1 (o := 0) (j := 16) rfl) (xik hw2.2.1 (o := 0) (j := 17) rfl) (fun j9 => xik hw2.2.1 (o := 7) (j := j9) rfl) (fun j9 => xik hw2.2.1 (o := 10) (j := j9) rfl) (fun j9 => xik hw2.2.1 (o := 11) (j := j9) rfl)
  have hU := hU.keep (cf' := cf) rfl (fun _ _ => ⟨rfl, rfl⟩) (fun _ _ _ _ _ _ => rfl) (fun j9 => xik hw2.2.1 (o := 8) (j := j9) rfl) (fun j9 => xik hw2.2.1 (o := 9) (j := j9) rfl)
  have hG := hG.keep (cf' := cf) rfl (fun _ _ _ => rfl) (fun j9 => xik hw2.2.1 (o := 51) (j := j9) rfl)
  have hR := hR.keep (fun _ _ _ => rfl) rfl rfl rfl (fun _ _ _ _ _ _ _ => rfl) (kpS hw2.2.1 rfl) (kpR hw2.2.1 rfl)
  refine lv_istore (lv' := [(6, .int r2), (5, .int r1), (0, .ref b), (1, .ref (ad 0)), (2, .ref (am 0)), (3, .ref ou), (4, .int i)]) hx hb dL_law_1829 hl (by decide) rfl (fun ls hl => ?_)
  refine lv_goto (tgt := 1859) hx hb dL_law_1831 (by decide) ?_
  exact W.widen (k := cn + 7) (n := sn + 3300) (by omega) (by omega) (tail _ _ _ _ _ _ _ _ V ⟨⟨⟨⟨⟨hR, hT⟩, hU⟩, hG⟩, hB⟩, hRS⟩ (lv_sub hl [2, 3, 4, 5, 6] rfl))
set_option maxHeartbeats 4000000 in
set_option maxRecDepth 100000 in
theorem law_case_37 {p : Program} {e : Env} {s : State} {m : MethodId} {below : List Frame} {meth : Method} {c : Code} (l : Launch) {b L : Nat} {xs : Nat → Int32} (hL : L ≤ 4096) (C0 : lw_At p s m meth c b L xs) {A : Nat → Prop} {ed : Nat} {dC : Nat → ClassId} {dI : Nat → Nat → Nat} {cT : Nat → ClassId} {cL : ClassId} (F : FX l s A ed dC dI cT cL) {x ou : Nat} {am cf ad : Nat → Nat} {E EM : Nat → va_E} {f : Nat → Int64} {H : Heap} {locs : List Loc} (V : INV s A ed dC dI cT cL x ou am cf ad E EM f H locs) (hR : REL15 cf E EM) {i : Int32} (hi0 : 0 ≤ i.toInt) (hi8 : i.toInt + 8 ≤ (L : Int)) {cn sn : Nat} (hcn : cn + 7 ≤ 601024) (hsn : sn + 3300 ≤ 7293034) (ls : Array Slot) (hl : lv_has ls 7 [(0, .ref b), (1, .ref x), (2, .ref (am 0)), (3, .ref ou), (4, .int i)]) (tail : (∀ (cf ad : Nat → Nat) (E EM : Nat → va_E) (f : Nat → Int64) (H : Heap) (locs : List Loc) (ls : Array Slot), INV s A ed dC dI cT cL x ou am cf ad E EM f H locs → REL15 cf E EM → lv_has ls 7 [(0, .ref b), (1, .ref x), (2, .ref (am 0)), (3, .ref ou), (4, .int i)] → W p l e room_1 s m #[Value.ref b] below meth c H locs (cn + 7) (sn + 3300) (lw_Z below #[Value.ref b] s) (F0 m 1859 ls []))) : W p l e room_1 s m #[Value.ref b] below meth c H locs cn sn (lw_Z below #[Value.ref b] s) (F0 m 1834 ls []) := by
  obtain ⟨hx, hb, hr, hml, hown, hts0, hX, hbl, hlocks, hgv⟩ := id C0
  have hts := fun w (h : w ∈ v_law) => hts0 w (v_law_in w h)
  have hbA : ¬ A b := F.hnA b hbl
  obtain rfl := V.hx
  obtain ⟨⟨⟨⟨⟨hR, hT⟩, hU⟩, hG⟩, hB⟩, hRS⟩ := hR
  refine lv_aload_n hx hb dL_law_1834 rfl (lv_at hl 1 rfl) ?_
  refine lv_aload_n hx hb dL_law_1835 rfl (lv_at hl 0 rfl) ?_
  refine lv_iload hx hb dL_law_1836 (lv_at hl 4 rfl) ?_
  refine lv_iconst (v := 1) hx hb dL_law_1838 (by decide) ?_
  refine lv_iadd hx hb dL_law_1839 ?_
  refine va_sld hx hb hX hbl hbA V.hS (law_in (k := 1) hi0 hi8 hL (by decide) rfl) dL_law_1840 ?_
  have hI0 := V.hI
  have hC0 := V.hC
  have hM0 := V.hM
  have bn : (0 : Int) ≤ (xi (E 1) 0).toInt ∧ (xi (E 1) 0).toInt ≤ 400 := hI0.iv 1 (mF 1 rfl) rfl (Nat.le_of_ble_eq_true rfl) rfl
  have bb : (0 : Int) ≤ (xi (E 1) 1).toInt ∧ (xi (E 1) 1).toInt ≤ 16 := hI0.iv 1 (mF 1 rfl) rfl (Nat.le_of_ble_eq_true rfl) rfl
  obtain ⟨⟨k0, k1, k2, k3, k4, k5⟩, -⟩ := id hC0
  refine lC F V (fun r u h => h.1) (va_runV (As := [.int (xs (i + 1).toNatClampNeg)]) (rest := []) ⟨hx, hb, hml, hown, hts⟩ (q_u_countX l dC dI cT cf V.hC ad E H.size (xs (i + 1).toNatClampNeg) V.hI) (cwV 1 hts (gl_V (al_5 _ (zs16 (zs4 (zs0)))) (al_5 _ (zs16 (zs4 (zs1 (zs0))))) (al_5 _ (zs16 (zs4 (zs1 (zs1 (zs0)))))) (vl_A _ (in_4 _ (zs16 (zs4 (zs1 (zs1 (zs1 (zs0)))))))) (vl_A _ (in_14 _ (zs4 (zs1 (zs0)))))) rfl rfl rfl ⟨rfl, hz_yX12_count_1⟩ ⟨Nat.le_of_ble_eq_true rfl, Nat.le_of_ble_eq_true rfl⟩) ⟨HWL_bl, va_recv F.kc V.cp (ci := 13) (q0 := posL 0 (LC cf)) rfl (V.hI.ob 0 (mF 0 rfl) rfl), HWL_wi V.cp F.kc V.dc V.hS F.hA (V.ec F)⟩ rfl rfl hl.1 rfl (lv_room (Nat.le_of_ble_eq_true rfl)) dL_law_1841 ⟨by show cn + 0 ≤ 601024; omega, by show sn + 0 ≤ 7293034; omega⟩) (fun r1 E1 H locs hw1 V => ?_)
  have hcf : ∀ j, j < 6 → j ≠ 1 → cf j = cf j := fun _ _ _ => rfl
  have k6 : xi (E1 1) 0 = xi (E 1) 0 := xik hw1.2.1 (o := 1) (j := 0) (by first | rfl | (simp [wl]; done) | (simp [wl]; omega))
  have k7 : xi (E1 1) 1 = xi (E 1) 1 := xik hw1.2.1 (o := 1) (j := 1) (by first | rfl | (simp [wl]; done) | (simp [wl]; omega))
  have k8 : xi (E1 1) 2 = xi (E 1) 2 := xik hw1.2.1 (o := 1) (j := 2) (by first | rfl | (simp [wl]; done) | (simp [wl]; omega))
  have hp : PK X0 cf E E1 := fun t i j _ _ _ _ => xik hw1.2.1 (by first | exact wl_p rfl rfl (by omega) | (simp [wl]; done) | (simp [wl]; omega))
  refine lv_pop hx hb dL_law_1844 rfl ?_
  refine lv_aload_n hx hb dL_law_1845 rfl (lv_at hl 2 rfl) ?_
  refine lv_aload_n hx hb dL_law_1846 rfl (lv_at hl 0 rfl) ?_
  refine lv_iload hx hb dL_law_1847 (lv_at hl 4 rfl) ?_
  refine lv_iconst (v := 1) hx hb dL_law_1849 (by decide) ?_
  refine lv_iadd hx hb dL_law_1850 ?_
  refine va_sld hx hb hX hbl hbA V.hS (law_in (k := 1) hi0 hi8 hL (by decide) rfl) dL_law_1851 ?_
  refine lM F V (fun r u h => ⟨h.1, DIr_kp h.2.1 (fun _ => rfl) (fun _ => rfl) V.hDI⟩) (va_runV (As := [.int (xs (i + 1).toNatClampNeg)]) (rest := []) ⟨hx, hb, hml, hown, hts⟩ (q_countM l dC dI cT am EM H.size (xs (i + 1).toNatClampNeg) V.hM) (cwV 1 hts (gl_V (al_5 _ (zs16 (zs4 (zs1 (zs1 (zs1 (zs0))))))) (al_5 _ (zs16 (zs4 (zs4 (zs0))))) (al_5 _ (zs16 (zs4 (zs4 (zs1 (zs0)))))) (vl_A _ (in_24 _ (zs4 (zs4 (zs4 (zs1 (zs1 (zs1 (zs0))))))))) (vl_A _ (in_30 _ (zs16 (zs1 (zs1 (zs1 (zs0)))))))) rfl rfl rfl ⟨rfl, hz_yX13_count_1⟩ ⟨Nat.le_of_ble_eq_true rfl, Nat.le_of_ble_eq_true rfl⟩) ⟨HW_bl, va_recv F.km V.pm (ci := 14) (q0 := 0) rfl (V.hM.ob 0 (Nat.le_of_ble_eq_true rfl) rfl), HW_wi V.pm F.km V.dm V.hS F.hA F.hEV⟩ rfl rfl hl.1 rfl (lv_room (Nat.le_of_ble_eq_true rfl)) dL_law_1852 ⟨by show cn + 0 ≤ 601024; omega, by show sn + 0 ≤ 7293034; omega⟩) (fun r2 EM1 H locs hw2 V => ?_)
  have hRS := hRS.keep (cf' := cf) (E' := E1) rfl (fun i9 _ => xik hw1.2.1 (o := 64 * (i9 + 1) + 12) (j := 2) (by first | exact wl_p rfl rfl (by omega) | (simp [wl]; done) | (simp [wl]; omega))) (fun i9 _ => xik hw1.2.1 (o := 64 * (i9 + 1) + 12) (j := 3) (by first | exact wl_p rfl rfl (by omega) | (simp [wl]; done) | (simp [wl]; omega)))
  have hb9 : (xi (E 1) 1).toInt ≤ (xi (E1 1) 1).toInt := by rw [show xi (E1 1) 1 = xi (E 1) 1 from xik hw1.2.1 (o := 1) (j := 1) (by first | rfl | (simp [wl]; done) | (simp [wl]; omega))]; exact Int.le_refl _
  have hB := hB.keep (cf' := cf) (E' := E1) rfl hb9 (fun i9 _ => xik hw1.2.1 (o := 64 * (i9 + 1) + 0) (j := 0) (by first | exact wl_p rfl rfl (by omega) | (simp [wl]; done) | (simp [wl]; omega)))
  have hG9 := hG
  have hT9 := hT
  have hT := hT.keep (cf' := cf) (E' := E1) rfl (xik hw1.2.1 (o := 2) (j := 1) (by first | rfl | (simp [wl]; done) | (simp [wl]; omega))) (fun j9 => xik hw1.2.1 (o := 21) (j := j9) (by first | rfl | (simp [wl]; done) | (simp [wl]; omega))) (fun i9 j9 _ => xik hw1.2.1 (o := 64 * (i9 + 1) + 1) (j := j9) (by first | exact wl_p rfl rfl (by omega) | (simp [wl]; done) | (simp [wl]; omega))) (xik hw2.2.1 (o := 0) (j := 16) rfl) (xik hw2.2.1 (o := 0) (j := 17) rfl) (fun j9 => xik hw2.2.1 (o := 7) (j := j9) rfl) (fun j9 => xik hw2.2.1 (o := 10) (j := j9) rfl) (fun j9 => xik hw2.2.1 (o := 11) (j := j9) rfl)
  have hU := hU.keep (cf' := cf) (E' := E1) rfl (fun _ _ => ⟨rfl, rfl⟩) (fun i9 _ t9 _ _ j9 => xik hw1.2.1 (o := 64 * (i9 + 1) + t9) (j := j9) (by first | exact wl_p rfl rfl (by omega) | (simp [wl]; done) | (simp [wl]; omega))) (fun j9 => xik hw2.2.1 (o := 8) (j := j9) rfl) (fun j9 => xik hw2.2.1 (o := 9) (j := j9) rfl)
  have hG := hG.keep (cf' := cf) (E' := E1) rfl (fun i9 j9 _ => xik hw1.2.1 (o := 64 * (i9 + 1) + 14) (j := j9) (by first | exact wl_p rfl rfl (by omega) | (simp [wl]; done) | (simp [wl]; omega))) (fun j9 => xik hw2.2.1 (o := 51) (j := j9) rfl)
  have e0 : (xi (E 1) 0).toInt = (xi (EM 0) 1).toInt := congrArg Int32.toInt hR.now
  have e1 : (xi (E 1) 1).toInt = (xi (EM 0) 8).toInt := congrArg Int32.toInt hR.boats
  have e2 : (xi (E 1) 2).toInt = (xi (EM 0) 48).toInt := congrArg Int32.toInt hR.red
  obtain ⟨q0, q2, q3, q4, q5⟩ := hR.cnt
  have lm : (-1 : Int32).toInt = -1 := rfl
  have l0 : (0 : Int32).toInt = 0 := rfl
  have l1 : (1 : Int32).toInt = 1 := rfl
  have l2 : (2 : Int32).toInt = 2 := rfl
  have lk : (1000 : Int32).toInt = 1000 := rfl
  have el : (xi (E 2) 1).toInt = (xi (EM 0) 16).toInt := by
    have b1 : (0 : Int) ≤ (xi (E 2) 1).toInt ∧ (xi (E 2) 1).toInt ≤ 200 := hI0.iv 2 (mF 2 rfl) rfl (Nat.le_of_ble_eq_true rfl) rfl
    have b2 : (0 : Int) ≤ (xi (EM 0) 16).toInt ∧ (xi (EM 0) 16).toInt ≤ 200 := hM0.iv 0 (Nat.le_of_ble_eq_true rfl) rfl (Nat.le_of_ble_eq_true rfl) rfl
    have h9 := hT9.1
    unfold tN lMn at h9
    rw [tn_, tn_] at h9
    omega
  have hru := hT9.2.2.1
  have hd : r1.toInt = r2.toInt ∧ True := by
    obtain ⟨-, -, u0, u1, u2, u3, u4, u5, u6, u7, u8, u9, u10, u11⟩ := id hw1
    obtain ⟨-, -, v0, v1, v2, v3, v4, v5, v6, v7, v8, v9, v10, v11⟩ := id hw2
    refine ⟨?_, trivial⟩
    rcases (show ¬ (0 ≤ (xs (i + 1).toNatClampNeg).toInt ∧ (xs (i + 1).toNatClampNeg).toInt ≤ 10) ∨ (xs (i + 1).toNatClampNeg).toInt = 0 ∨ (xs (i + 1).toNatClampNeg).toInt = 1 ∨ (xs (i + 1).toNatClampNeg).toInt = 2 ∨ (xs (i + 1).toNatClampNeg).toInt = 3 ∨ (xs (i + 1).toNatClampNeg).toInt = 4 ∨ (xs (i + 1).toNatClampNeg).toInt = 5 ∨ (xs (i + 1).toNatClampNeg).toInt = 6 ∨ (xs (i + 1).toNatClampNeg).toInt = 7 ∨ (xs (i + 1).toNatClampNeg).toInt = 8 ∨ (xs (i + 1).toNatClampNeg).toInt = 9 ∨ (xs (i + 1).toNatClampNeg).toInt = 10 by omega) with z | z | z | z | z | z | z | z | z | z | z | z
    · rw [u11 z, v11 z]
    · have x1 := u0 z; have x2 := v0 z; omega
    · have x1 := u1 z; have x2 := v1 z; omega
    · have x1 := u2 z; have x2 := v2 z; omega
    · have x1 := u3 z; have x2 := v3 z; omega
    · have x1 := u4 z; have x2 := v4 z; omega
    · have x1 := u5 z; have x2 := v5 z; omega
    · have x1 := u6 z; have x2 := v6 z; omega
    · have x1 := u7 z; have x2 := v7 z; omega
    · have x1 := u8 z; have x2 := v8 z; omega
    · have x1 := u9 z; have x2 := v9 z; omega
    · exact cnt_eq hR hG9 bn bb (u10 z) (v10 z)
  have hR := hR.keep hcf k6 k7 k8 hp (kpS hw2.2.1 rfl) (kpR hw2.2.1 rfl)
  refine lv_pop hx hb dL_law_1855 rfl ?_
  refine lv_goto (tgt := 1859) hx hb dL_law_1856 (by decide) ?_
  exact W.widen (k := cn + 7) (n := sn + 3300) (by omega) (by omega) (tail _ _ _ _ _ _ _ _ V ⟨⟨⟨⟨⟨hR, hT⟩, hU⟩, hG⟩, hB⟩, hRS⟩ hl)
