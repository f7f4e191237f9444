theorem drL_law_1521 : ([(1521, (.iconst 5), 1), (1522, .iadd, 1), (1523, .iaload, 1), (1524, (.invokevirtual 237), 3), (1527, (.istore 6), 2), (1529, (.goto 453), 3), (1532, (.aload_n 1), 1), (1533, (.aload_n 0), 1), (1534, (.iload 4), 2), (1536, (.iconst 1), 1), (1537, .iadd, 1), (1538, .iaload, 1), (1539, (.aload_n 0), 1), (1540, (.iload 4), 2), (1542, (.iconst 2), 1), (1543, .iadd, 1), (1544, .iaload, 1), (1545, (.invokestatic 238), 3), (1548, (.istore 5), 2), (1550, (.aload_n 2), 1), (1551, (.aload_n 0), 1), (1552, (.iload 4), 2), (1554, (.iconst 1), 1), (1555, .iadd, 1), (1556, .iaload, 1), (1557, (.aload_n 0), 1), (1558, (.iload 4), 2), (1560, (.iconst 2), 1), (1561, .iadd, 1), (1562, .iaload, 1), (1563, (.invokevirtual 240), 3), (1566, (.goto 416), 3), (1569, (.aload_n 1), 1), (1570, (.aload_n 0), 1), (1571, (.iload 4), 2), (1573, (.iconst 1), 1), (1574, .iadd, 1), (1575, .iaload, 1), (1576, (.invokestatic 241), 3), (1579, (.istore 5), 2), (1581, (.aload_n 2), 1), (1582, (.aload_n 0), 1), (1583, (.iload 4), 2), (1585, (.iconst 1), 1), (1586, .iadd, 1), (1587, .iaload, 1), (1588, (.invokevirtual 243), 3), (1591, (.aload_n 2), 1), (1592, (.invokevirtual 244), 3), (1595, (.iload 5), 2), (1597, (.if_icmp .eq 5), 3), (1600, (.iconst 0), 1)] : List (Nat × Instr × Nat)).all (fun q => decide (decode code q.1 = .ok q.2)) = true := by decide +kernel
theorem dL_1521 : dc code 1521 1522 (.iconst 5) 1 := ⟨dr_at drL_law_1521 (i := 0) rfl, rfl⟩
theorem dL_1522 : dc code 1522 1523 .iadd 1 := ⟨dr_at drL_law_1521 (i := 1) rfl, rfl⟩
theorem dL_1523 : dc code 1523 1524 .iaload 1 := ⟨dr_at drL_law_1521 (i := 2) rfl, rfl⟩
theorem dL_1524 : dc code 1524 1527 (.invokevirtual 237) 3 := ⟨dr_at drL_law_1521 (i := 3) rfl, rfl⟩
theorem dL_1527 : dc code 1527 1529 (.istore 6) 2 := ⟨dr_at drL_law_1521 (i := 4) rfl, rfl⟩
theorem dL_1529 : dc code 1529 1532 (.goto 453) 3 := ⟨dr_at drL_law_1521 (i := 5) rfl, rfl⟩
theorem dL_1532 : dc code 1532 1533 (.aload_n 1) 1 := ⟨dr_at drL_law_1521 (i := 6) rfl, rfl⟩
theorem dL_1533 : dc code 1533 1534 (.aload_n 0) 1 := ⟨dr_at drL_law_1521 (i := 7) rfl, rfl⟩
theorem dL_1534 : dc code 1534 1536 (.iload 4) 2 := ⟨dr_at drL_law_1521 (i := 8) rfl, rfl⟩
theorem dL_1536 : dc code 1536 1537 (.iconst 1) 1 := ⟨dr_at drL_law_1521 (i := 9) rfl, rfl⟩
theorem dL_1537 : dc code 1537 1538 .iadd 1 := ⟨dr_at drL_law_1521 (i := 10) rfl, rfl⟩
theorem dL_1538 : dc code 1538 1539 .iaload 1 := ⟨dr_at drL_law_1521 (i := 11) rfl, rfl⟩
theorem dL_1539 : dc code 1539 1540 (.aload_n 0) 1 := ⟨dr_at drL_law_1521 (i := 12) rfl, rfl⟩
theorem dL_1540 : dc code 1540 1542 (.iload 4) 2 := ⟨dr_at drL_law_1521 (i := 13) rfl, rfl⟩
theorem dL_1542 : dc code 1542 1543 (.iconst 2) 1 := ⟨dr_at drL_law_1521 (i := 14) rfl, rfl⟩
theorem dL_1543 : dc code 1543 1544 .iadd 1 := ⟨dr_at drL_law_1521 (i := 15) rfl, rfl⟩
theorem dL_1544 : dc code 1544 1545 .iaload 1 := ⟨dr_at drL_law_1521 (i := 16) rfl, rfl⟩
theorem dL_1545 : dc code 1545 1548 (.invokestatic 238) 3 := ⟨dr_at drL_law_1521 (i := 17) rfl, rfl⟩
theorem dL_1548 : dc code 1548 1550 (.istore 5) 2 := ⟨dr_at drL_law_1521 (i := 18) rfl, rfl⟩
theorem dL_1550 : dc code 1550 1551 (.aload_n 2) 1 := ⟨dr_at drL_law_1521 (i := 19) rfl, rfl⟩
theorem dL_1551 : dc code 1551 1552 (.aload_n 0) 1 := ⟨dr_at drL_law_1521 (i := 20) rfl, rfl⟩
theorem dL_1552 : dc code 1552 1554 (.iload 4) 2 := ⟨dr_at drL_law_1521 (i := 21) rfl, rfl⟩
theorem dL_1554 : dc code 1554 1555 (.iconst 1) 1 := ⟨dr_at drL_law_1521 (i := 22) rfl, rfl⟩
theorem dL_1555 : dc code 1555 1556 .iadd 1 := ⟨dr_at drL_law_1521 (i := 23) rfl, rfl⟩
theorem dL_1556 : dc code 1556 1557 .iaload 1 := ⟨dr_at drL_law_1521 (i := 24) rfl, rfl⟩
theorem dL_1557 : dc code 1557 1558 (.aload_n 0) 1 := ⟨dr_at drL_law_1521 (i := 25) rfl, rfl⟩
theorem dL_1558 : dc code 1558 1560 (.iload 4) 2 := ⟨dr_at drL_law_1521 (i := 26) rfl, rfl⟩
theorem dL_1560 : dc code 1560 1561 (.iconst 2) 1 := ⟨dr_at drL_law_1521 (i := 27) rfl, rfl⟩
theorem dL_1561 : dc code 1561 1562 .iadd 1 := ⟨dr_at drL_law_1521 (i := 28) rfl, rfl⟩
theorem dL_1562 : dc code 1562 1563 .iaload 1 := ⟨dr_at drL_law_1521 (i := 29) rfl, rfl⟩
theorem dL_1563 : dc code 1563 1566 (.invokevirtual 240) 3 := ⟨dr_at drL_law_1521 (i := 30) rfl, rfl⟩
theorem dL_1566 : dc code 1566 1569 (.goto 416) 3 := ⟨dr_at drL_law_1521 (i := 31) rfl, rfl⟩
theorem dL_1569 : dc code 1569 1570 (.aload_n 1) 1 := ⟨dr_at drL_law_1521 (i := 32) rfl, rfl⟩
theorem dL_1570 : dc code 1570 1571 (.aload_n 0) 1 := ⟨dr_at drL_law_1521 (i := 33) rfl, rfl⟩
theorem dL_1571 : dc code 1571 1573 (.iload 4) 2 := ⟨dr_at drL_law_1521 (i := 34) rfl, rfl⟩
theorem dL_1573 : dc code 1573 1574 (.iconst 1) 1 := ⟨dr_at drL_law_1521 (i := 35) rfl, rfl⟩
theorem dL_1574 : dc code 1574 1575 .iadd 1 := ⟨dr_at drL_law_1521 (i := 36) rfl, rfl⟩
theorem dL_1575 : dc code 1575 1576 .iaload 1 := ⟨dr_at drL_law_1521 (i := 37) rfl, rfl⟩
theorem dL_1576 : dc code 1576 1579 (.invokestatic 241) 3 := ⟨dr_at drL_law_1521 (i := 38) rfl, rfl⟩
theorem dL_1579 : dc code 1579 1581 (.istore 5) 2 := ⟨dr_at drL_law_1521 (i := 39) rfl, rfl⟩
theorem dL_1581 : dc code 1581 1582 (.aload_n 2) 1 := ⟨dr_at drL_law_1521 (i := 40) rfl, rfl⟩
theorem dL_1582 : dc code 1582 1583 (.aload_n 0) 1 := ⟨dr_at drL_law_1521 (i := 41) rfl, rfl⟩
theorem dL_1583 : dc code 1583 1585 (.iload 4) 2 := ⟨dr_at drL_law_1521 (i := 42) rfl, rfl⟩
theorem dL_1585 : dc code 1585 1586 (.iconst 1) 1 := ⟨dr_at drL_law_1521 (i := 43) rfl, rfl⟩
theorem dL_1586 : dc code 1586 1587 .iadd 1 := ⟨dr_at drL_law_1521 (i := 44) rfl, rfl⟩
theorem dL_1587 : dc code 1587 1588 .iaload 1 := ⟨dr_at drL_law_1521 (i := 45) rfl, rfl⟩
theorem dL_1588 : dc code 1588 1591 (.invokevirtual 243) 3 := ⟨dr_at drL_law_1521 (i := 46) rfl, rfl⟩
theorem dL_1591 : dc code 1591 1592 (.aload_n 2) 1 := ⟨dr_at drL_law_1521 (i := 47) rfl, rfl⟩
theorem dL_1592 : dc code 1592 1595 (.invokevirtual 244) 3 := ⟨dr_at drL_law_1521 (i := 48) rfl, rfl⟩
theorem dL_1595 : dc code 1595 1597 (.iload 5) 2 := ⟨dr_at drL_law_1521 (i := 49) rfl, rfl⟩
theorem dL_1597 : dc code 1597 1600 (.if_icmp .eq 5) 3 := ⟨dr_at drL_law_1521 (i := 50) rfl, rfl⟩
theorem dL_1600 : dc code 1600 1601 (.iconst 0) 1 := ⟨dr_at drL_law_1521 (i := 51) rfl, rfl⟩
theorem drL_law_1602 : ([(1602, (.goto 380), 3), (1605, (.aload_n 1), 1), (1606, (.aload_n 0), 1), (1607, (.iload 4), 2), (1609, (.iconst 1), 1), (1610, .iadd, 1), (1611, .iaload, 1), (1612, (.aload_n 0), 1), (1613, (.iload 4), 2), (1615, (.iconst 2), 1), (1616, .iadd, 1), (1617, .iaload, 1), (1618, (.aload_n 3), 1), (1619, (.invokestatic 247), 3), (1622, (.istore 5), 2), (1624, (.aload_n 2), 1), (1625, (.aload_n 0), 1), (1626, (.iload 4), 2), (1628, (.iconst 1), 1), (1629, .iadd, 1), (1630, .iaload, 1), (1631, (.aload_n 0), 1), (1632, (.iload 4), 2), (1634, (.iconst 2), 1), (1635, .iadd, 1), (1636, .iaload, 1), (1637, (.invokevirtual 249), 3), (1640, (.istore 6), 2), (1642, (.goto 340), 3), (1645, (.aload_n 1), 1), (1646, (.aload_n 0), 1), (1647, (.iload 4), 2), (1649, (.iconst 1), 1), (1650, .iadd, 1), (1651, .iaload, 1), (1652, (.aload_n 3), 1), (1653, (.invokestatic 250), 3), (1656, (.istore 5), 2), (1658, (.aload_n 2), 1), (1659, (.aload_n 0), 1), (1660, (.iload 4), 2), (1662, (.iconst 1), 1), (1663, .iadd, 1), (1664, .iaload, 1), (1665, (.invokevirtual 252), 3), (1668, (.istore 6), 2), (1670, (.goto 312), 3), (1673, (.aload_n 1), 1), (1674, (.aload_n 0), 1)] : List (Nat × Instr × Nat)).all (fun q => decide (decode code q.1 = .ok q.2)) = true := by decide +kernel
theorem dL_1602 : dc code 1602 1605 (.goto 380) 3 := ⟨dr_at drL_law_1602 (i := 0) rfl, rfl⟩
theorem dL_1605 : dc code 1605 1606 (.aload_n 1) 1 := ⟨dr_at drL_law_1602 (i := 1) rfl, rfl⟩
theorem dL_1606 : dc code 1606 1607 (.aload_n 0) 1 := ⟨dr_at drL_law_1602 (i := 2) rfl, rfl⟩
theorem dL_1607 : dc code 1607 1609 (.iload 4) 2 := ⟨dr_at drL_law_1602 (i := 3) rfl, rfl⟩
theorem dL_1609 : dc code 1609 1610 (.iconst 1) 1 := ⟨dr_at drL_law_1602 (i := 4) rfl, rfl⟩
theorem dL_1610 : dc code 1610 1611 .iadd 1 := ⟨dr_at drL_law_1602 (i := 5) rfl, rfl⟩
theorem dL_1611 : dc code 1611 1612 .iaload 1 := ⟨dr_at drL_law_1602 (i := 6) rfl, rfl⟩
theorem dL_1612 : dc code 1612 1613 (.aload_n 0) 1 := ⟨dr_at drL_law_1602 (i := 7) rfl, rfl⟩
theorem dL_1613 : dc code 1613 1615 (.iload 4) 2 := ⟨dr_at drL_law_1602 (i := 8) rfl, rfl⟩
theorem dL_1615 : dc code 1615 1616 (.iconst 2) 1 := ⟨dr_at drL_law_1602 (i := 9) rfl, rfl⟩
theorem dL_1616 : dc code 1616 1617 .iadd 1 := ⟨dr_at drL_law_1602 (i := 10) rfl, rfl⟩
theorem dL_1617 : dc code 1617 1618 .iaload 1 := ⟨dr_at drL_law_1602 (i := 11) rfl, rfl⟩
theorem dL_1618 : dc code 1618 1619 (.aload_n 3) 1 := ⟨dr_at drL_law_1602 (i := 12) rfl, rfl⟩
theorem dL_1619 : dc code 1619 1622 (.invokestatic 247) 3 := ⟨dr_at drL_law_1602 (i := 13) rfl, rfl⟩
theorem dL_1622 : dc code 1622 1624 (.istore 5) 2 := ⟨dr_at drL_law_1602 (i := 14) rfl, rfl⟩
theorem dL_1624 : dc code 1624 1625 (.aload_n 2) 1 := ⟨dr_at drL_law_1602 (i := 15) rfl, rfl⟩
theorem dL_1625 : dc code 1625 1626 (.aload_n 0) 1 := ⟨dr_at drL_law_1602 (i := 16) rfl, rfl⟩
theorem dL_1626 : dc code 1626 1628 (.iload 4) 2 := ⟨dr_at drL_law_1602 (i := 17) rfl, rfl⟩
theorem dL_1628 : dc code 1628 1629 (.iconst 1) 1 := ⟨dr_at drL_law_1602 (i := 18) rfl, rfl⟩
theorem dL_1629 : dc code 1629 1630 .iadd 1 := ⟨dr_at drL_law_1602 (i := 19) rfl, rfl⟩
theorem dL_1630 : dc code 1630 1631 .iaload 1 := ⟨dr_at drL_law_1602 (i := 20) rfl, rfl⟩
theorem dL_1631 : dc code 1631 1632 (.aload_n 0) 1 := ⟨dr_at drL_law_1602 (i := 21) rfl, rfl⟩
theorem dL_1632 : dc code 1632 1634 (.iload 4) 2 := ⟨dr_at drL_law_1602 (i := 22) rfl, rfl⟩
theorem dL_1634 : dc code 1634 1635 (.iconst 2) 1 := ⟨dr_at drL_law_1602 (i := 23) rfl, rfl⟩
theorem dL_1635 : dc code 1635 1636 .iadd 1 := ⟨dr_at drL_law_1602 (i := 24) rfl, rfl⟩
theorem dL_1636 : dc code 1636 1637 .iaload 1 := ⟨dr_at drL_law_1602 (i := 25) rfl, rfl⟩
theorem dL_1637 : dc code 1637 1640 (.invokevirtual 249) 3 := ⟨dr_at drL_law_1602 (i := 26) rfl, rfl⟩
theorem dL_1640 : dc code 1640 1642 (.istore 6) 2 := ⟨dr_at drL_law_1602 (i := 27) rfl, rfl⟩
theorem dL_1642 : dc code 1642 1645 (.goto 340) 3 := ⟨dr_at drL_law_1602 (i := 28) rfl, rfl⟩
theorem dL_1645 : dc code 1645 1646 (.aload_n 1) 1 := ⟨dr_at drL_law_1602 (i := 29) rfl, rfl⟩
theorem dL_1646 : dc code 1646 1647 (.aload_n 0) 1 := ⟨dr_at drL_law_1602 (i := 30) rfl, rfl⟩
theorem dL_1647 : dc code 1647 1649 (.iload 4) 2 := ⟨dr_at drL_law_1602 (i := 31) rfl, rfl⟩
theorem dL_1649 : dc code 1649 1650 (.iconst 1) 1 := ⟨dr_at drL_law_1602 (i := 32) rfl, rfl⟩
theorem dL_1650 : dc code 1650 1651 .iadd 1 := ⟨dr_at drL_law_1602 (i := 33) rfl, rfl⟩
theorem dL_1651 : dc code 1651 1652 .iaload 1 := ⟨dr_at drL_law_1602 (i := 34) rfl, rfl⟩
theorem dL_1652 : dc code 1652 1653 (.aload_n 3) 1 := ⟨dr_at drL_law_1602 (i := 35) rfl, rfl⟩
theorem dL_1653 : dc code 1653 1656 (.invokestatic 250) 3 := ⟨dr_at drL_law_1602 (i := 36) rfl, rfl⟩
theorem dL_1656 : dc code 1656 1658 (.istore 5) 2 := ⟨dr_at drL_law_1602 (i := 37) rfl, rfl⟩
theorem dL_1658 : dc code 1658 1659 (.aload_n 2) 1 := ⟨dr_at drL_law_1602 (i := 38) rfl, rfl⟩
theorem dL_1659 : dc code 1659 1660 (.aload_n 0) 1 := ⟨dr_at drL_law_1602 (i := 39) rfl, rfl⟩
theorem dL_1660 : dc code 1660 1662 (.iload 4) 2 := ⟨dr_at drL_law_1602 (i := 40) rfl, rfl⟩
theorem dL_1662 : dc code 1662 1663 (.iconst 1) 1 := ⟨dr_at drL_law_1602 (i := 41) rfl, rfl⟩
theorem dL_1663 : dc code 1663 1664 .iadd 1 := ⟨dr_at drL_law_1602 (i := 42) rfl, rfl⟩
theorem dL_1664 : dc code 1664 1665 .iaload 1 := ⟨dr_at drL_law_1602 (i := 43) rfl, rfl⟩
theorem dL_1665 : dc code 1665 1668 (.invokevirtual 252) 3 := ⟨dr_at drL_law_1602 (i := 44) rfl, rfl⟩
theorem dL_1668 : dc code 1668 1670 (.istore 6) 2 := ⟨dr_at drL_law_1602 (i := 45) rfl, rfl⟩
theorem dL_1670 : dc code 1670 1673 (.goto 312) 3 := ⟨dr_at drL_law_1602 (i := 46) rfl, rfl⟩
theorem dL_1673 : dc code 1673 1674 (.aload_n 1) 1 := ⟨dr_at drL_law_1602 (i := 47) rfl, rfl⟩
theorem dL_1674 : dc code 1674 1675 (.aload_n 0) 1 := ⟨dr_at drL_law_1602 (i := 48) rfl, rfl⟩
theorem drL_law_1675 : ([(1675, (.iload 4), 2), (1677, (.iconst 1), 1), (1678, .iadd, 1), (1679, .iaload, 1), (1680, (.aload_n 3), 1), (1681, (.invokestatic 253), 3), (1684, (.istore 5), 2), (1686, (.aload_n 2), 1), (1687, (.aload_n 0), 1), (1688, (.iload 4), 2), (1690, (.iconst 1), 1), (1691, .iadd, 1), (1692, .iaload, 1), (1693, (.invokevirtual 255), 3), (1696, (.istore 6), 2), (1698, (.goto 284), 3), (1701, (.aload_n 1), 1), (1702, (.aload_n 0), 1), (1703, (.iload 4), 2), (1705, (.iconst 1), 1), (1706, .iadd, 1), (1707, .iaload, 1), (1708, (.aload_n 3), 1), (1709, (.invokestatic 256), 3), (1712, (.istore 5), 2), (1714, (.aload_n 2), 1), (1715, (.aload_n 0), 1), (1716, (.iload 4), 2), (1718, (.iconst 1), 1), (1719, .iadd, 1), (1720, .iaload, 1), (1721, (.invokevirtual 258), 3), (1724, (.istore 6), 2), (1726, (.goto 256), 3), (1729, (.aload_n 1), 1), (1730, (.aload_n 0), 1), (1731, (.iload 4), 2), (1733, (.iconst 1), 1), (1734, .iadd, 1), (1735, .iaload, 1), (1736, (.aload_n 0), 1), (1737, (.iload 4), 2), (1739, (.iconst 2), 1), (1740, .iadd, 1), (1741, .iaload, 1), (1742, (.aload_n 3), 1), (1743, (.invokestatic 259), 3)] : List (Nat × Instr × Nat)).all (fun q => decide (decode code q.1 = .ok q.2)) = true := by decide +kernel
theorem dL_1675 : dc code 1675 1677 (.iload 4) 2 := ⟨dr_at drL_law_1675 (i := 0) rfl, rfl⟩
theorem dL_1677 : dc code 1677 1678 (.iconst 1) 1 := ⟨dr_at drL_law_1675 (i := 1) rfl, rfl⟩
theorem dL_1678 : dc code 1678 1679 .iadd 1 := ⟨dr_at drL_law_1675 (i := 2) rfl, rfl⟩
theorem dL_1679 : dc code 1679 1680 .iaload 1 := ⟨dr_at drL_law_1675 (i := 3) rfl, rfl⟩
theorem dL_1680 : dc code 1680 1681 (.aload_n 3) 1 := ⟨dr_at drL_law_1675 (i := 4) rfl, rfl⟩
theorem dL_1681 : dc code 1681 1684 (.invokestatic 253) 3 := ⟨dr_at drL_law_1675 (i := 5) rfl, rfl⟩
theorem dL_1684 : dc code 1684 1686 (.istore 5) 2 := ⟨dr_at drL_law_1675 (i := 6) rfl, rfl⟩
theorem dL_1686 : dc code 1686 1687 (.aload_n 2) 1 := ⟨dr_at drL_law_1675 (i := 7) rfl, rfl⟩
theorem dL_1687 : dc code 1687 1688 (.aload_n 0) 1 := ⟨dr_at drL_law_1675 (i := 8) rfl, rfl⟩
theorem dL_1688 : dc code 1688 1690 (.iload 4) 2 := ⟨dr_at drL_law_1675 (i := 9) rfl, rfl⟩
theorem dL_1690 : dc code 1690 1691 (.iconst 1) 1 := ⟨dr_at drL_law_1675 (i := 10) rfl, rfl⟩
theorem dL_1691 : dc code 1691 1692 .iadd 1 := ⟨dr_at drL_law_1675 (i := 11) rfl, rfl⟩
theorem dL_1692 : dc code 1692 1693 .iaload 1 := ⟨dr_at drL_law_1675 (i := 12) rfl, rfl⟩
theorem dL_1693 : dc code 1693 1696 (.invokevirtual 255) 3 := ⟨dr_at drL_law_1675 (i := 13) rfl, rfl⟩
theorem dL_1696 : dc code 1696 1698 (.istore 6) 2 := ⟨dr_at drL_law_1675 (i := 14) rfl, rfl⟩
theorem dL_1698 : dc code 1698 1701 (.goto 284) 3 := ⟨dr_at drL_law_1675 (i := 15) rfl, rfl⟩
theorem dL_1701 : dc code 1701 1702 (.aload_n 1) 1 := ⟨dr_at drL_law_1675 (i := 16) rfl, rfl⟩
theorem dL_1702 : dc code 1702 1703 (.aload_n 0) 1 := ⟨dr_at drL_law_1675 (i := 17) rfl, rfl⟩
theorem dL_1703 : dc code 1703 1705 (.iload 4) 2 := ⟨dr_at drL_law_1675 (i := 18) rfl, rfl⟩
theorem dL_1705 : dc code 1705 1706 (.iconst 1) 1 := ⟨dr_at drL_law_1675 (i := 19) rfl, rfl⟩
theorem dL_1706 : dc code 1706 1707 .iadd 1 := ⟨dr_at drL_law_1675 (i := 20) rfl, rfl⟩
theorem dL_1707 : dc code 1707 1708 .iaload 1 := ⟨dr_at drL_law_1675 (i := 21) rfl, rfl⟩
theorem dL_1708 : dc code 1708 1709 (.aload_n 3) 1 := ⟨dr_at drL_law_1675 (i := 22) rfl, rfl⟩
theorem dL_1709 : dc code 1709 1712 (.invokestatic 256) 3 := ⟨dr_at drL_law_1675 (i := 23) rfl, rfl⟩
theorem dL_1712 : dc code 1712 1714 (.istore 5) 2 := ⟨dr_at drL_law_1675 (i := 24) rfl, rfl⟩
theorem dL_1714 : dc code 1714 1715 (.aload_n 2) 1 := ⟨dr_at drL_law_1675 (i := 25) rfl, rfl⟩
theorem dL_1715 : dc code 1715 1716 (.aload_n 0) 1 := ⟨dr_at drL_law_1675 (i := 26) rfl, rfl⟩
theorem dL_1716 : dc code 1716 1718 (.iload 4) 2 := ⟨dr_at drL_law_1675 (i := 27) rfl, rfl⟩
theorem dL_1718 : dc code 1718 1719 (.iconst 1) 1 := ⟨dr_at drL_law_1675 (i := 28) rfl, rfl⟩
theorem dL_1719 : dc code 1719 1720 .iadd 1 := ⟨dr_at drL_law_1675 (i := 29) rfl, rfl⟩
theorem dL_1720 : dc code 1720 1721 .iaload 1 := ⟨dr_at drL_law_1675 (i := 30) rfl, rfl⟩
theorem dL_1721 : dc code 1721 1724 (.invokevirtual 258) 3 := ⟨dr_at drL_law_1675 (i := 31) rfl, rfl⟩
theorem dL_1724 : dc code 1724 1726 (.istore 6) 2 := ⟨dr_at drL_law_1675 (i := 32) rfl, rfl⟩
theorem dL_1726 : dc code 1726 1729 (.goto 256) 3 := ⟨dr_at drL_law_1675 (i := 33) rfl, rfl⟩
theorem dL_1729 : dc code 1729 1730 (.aload_n 1) 1 := ⟨dr_at drL_law_1675 (i := 34) rfl, rfl⟩
theorem dL_1730 : dc code 1730 1731 (.aload_n 0) 1 := ⟨dr_at drL_law_1675 (i := 35) rfl, rfl⟩
theorem dL_1731 : dc code 1731 1733 (.iload 4) 2 := ⟨dr_at drL_law_1675 (i := 36) rfl, rfl⟩
theorem dL_1733 : dc code 1733 1734 (.iconst 1) 1 := ⟨dr_at drL_law_1675 (i := 37) rfl, rfl⟩
theorem dL_1734 : dc code 1734 1735 .iadd 1 := ⟨dr_at drL_law_1675 (i := 38) rfl, rfl⟩
theorem dL_1735 : dc code 1735 1736 .iaload 1 := ⟨dr_at drL_law_1675 (i := 39) rfl, rfl⟩
theorem dL_1736 : dc code 1736 1737 (.aload_n 0) 1 := ⟨dr_at drL_law_1675 (i := 40) rfl, rfl⟩
theorem dL_1737 : dc code 1737 1739 (.iload 4) 2 := ⟨dr_at drL_law_1675 (i := 41) rfl, rfl⟩
theorem dL_1739 : dc code 1739 1740 (.iconst 2) 1 := ⟨dr_at drL_law_1675 (i := 42) rfl, rfl⟩
theorem dL_1740 : dc code 1740 1741 .iadd 1 := ⟨dr_at drL_law_1675 (i := 43) rfl, rfl⟩
theorem dL_1741 : dc code 1741 1742 .iaload 1 := ⟨dr_at drL_law_1675 (i := 44) rfl, rfl⟩
theorem dL_1742 : dc code 1742 1743 (.aload_n 3) 1 := ⟨dr_at drL_law_1675 (i := 45) rfl, rfl⟩
theorem dL_1743 : dc code 1743 1746 (.invokestatic 259) 3 := ⟨dr_at drL_law_1675 (i := 46) rfl, rfl⟩
theorem drL_law_1746 : ([(1746, (.istore 5), 2), (1748, (.aload_n 2), 1), (1749, (.aload_n 0), 1), (1750, (.iload 4), 2), (1752, (.iconst 1), 1), (1753, .iadd, 1), (1754, .iaload, 1), (1755, (.aload_n 0), 1), (1756, (.iload 4), 2), (1758, (.iconst 2), 1), (1759, .iadd, 1), (1760, .iaload, 1), (1761, (.invokevirtual 261), 3), (1764, (.istore 6), 2), (1766, (.goto 216), 3), (1769, (.aload_n 1), 1), (1770, (.aload_n 0), 1), (1771, (.iload 4), 2), (1773, (.iconst 1), 1), (1774, .iadd, 1), (1775, .iaload, 1), (1776, (.aload_n 0), 1), (1777, (.iload 4), 2), (1779, (.iconst 2), 1), (1780, .iadd, 1), (1781, .iaload, 1), (1782, (.aload_n 3), 1), (1783, (.invokestatic 262), 3), (1786, (.istore 5), 2), (1788, (.aload_n 2), 1), (1789, (.aload_n 0), 1), (1790, (.iload 4), 2), (1792, (.iconst 1), 1), (1793, .iadd, 1), (1794, .iaload, 1), (1795, (.aload_n 0), 1), (1796, (.iload 4), 2), (1798, (.iconst 2), 1), (1799, .iadd, 1), (1800, .iaload, 1), (1801, (.invokevirtual 264), 3), (1804, (.istore 6), 2), (1806, (.goto 176), 3), (1809, (.aload_n 1), 1), (1810, (.aload_n 0), 1)] : List (Nat × Instr × Nat)).all (fun q => decide (decode code q.1 = .ok q.2)) = true := by decide +kernel
theorem dL_1746 : dc code 1746 1748 (.istore 5) 2 := ⟨dr_at drL_law_1746 (i := 0) rfl, rfl⟩
theorem dL_1748 : dc code 1748 1749 (.aload_n 2) 1 := ⟨dr_at drL_law_1746 (i := 1) rfl, rfl⟩
theorem dL_1749 : dc code 1749 1750 (.aload_n 0) 1 := ⟨dr_at drL_law_1746 (i := 2) rfl, rfl⟩
theorem dL_1750 : dc code 1750 1752 (.iload 4) 2 := ⟨dr_at drL_law_1746 (i := 3) rfl, rfl⟩
theorem dL_1752 : dc code 1752 1753 (.iconst 1) 1 := ⟨dr_at drL_law_1746 (i := 4) rfl, rfl⟩
theorem dL_1753 : dc code 1753 1754 .iadd 1 := ⟨dr_at drL_law_1746 (i := 5) rfl, rfl⟩
theorem dL_1754 : dc code 1754 1755 .iaload 1 := ⟨dr_at drL_law_1746 (i := 6) rfl, rfl⟩
theorem dL_1755 : dc code 1755 1756 (.aload_n 0) 1 := ⟨dr_at drL_law_1746 (i := 7) rfl, rfl⟩
theorem dL_1756 : dc code 1756 1758 (.iload 4) 2 := ⟨dr_at drL_law_1746 (i := 8) rfl, rfl⟩
theorem dL_1758 : dc code 1758 1759 (.iconst 2) 1 := ⟨dr_at drL_law_1746 (i := 9) rfl, rfl⟩
theorem dL_1759 : dc code 1759 1760 .iadd 1 := ⟨dr_at drL_law_1746 (i := 10) rfl, rfl⟩
theorem dL_1760 : dc code 1760 1761 .iaload 1 := ⟨dr_at drL_law_1746 (i := 11) rfl, rfl⟩
theorem dL_1761 : dc code 1761 1764 (.invokevirtual 261) 3 := ⟨dr_at drL_law_1746 (i := 12) rfl, rfl⟩
theorem dL_1764 : dc code 1764 1766 (.istore 6) 2 := ⟨dr_at drL_law_1746 (i := 13) rfl, rfl⟩
theorem dL_1766 : dc code 1766 1769 (.goto 216) 3 := ⟨dr_at drL_law_1746 (i := 14) rfl, rfl⟩
theorem dL_1769 : dc code 1769 1770 (.aload_n 1) 1 := ⟨dr_at drL_law_1746 (i := 15) rfl, rfl⟩
theorem dL_1770 : dc code 1770 1771 (.aload_n 0) 1 := ⟨dr_at drL_law_1746 (i := 16) rfl, rfl⟩
theorem dL_1771 : dc code 1771 1773 (.iload 4) 2 := ⟨dr_at drL_law_1746 (i := 17) rfl, rfl⟩
theorem dL_1773 : dc code 1773 1774 (.iconst 1) 1 := ⟨dr_at drL_law_1746 (i := 18) rfl, rfl⟩
theorem dL_1774 : dc code 1774 1775 .iadd 1 := ⟨dr_at drL_law_1746 (i := 19) rfl, rfl⟩
theorem dL_1775 : dc code 1775 1776 .iaload 1 := ⟨dr_at drL_law_1746 (i := 20) rfl, rfl⟩
theorem dL_1776 : dc code 1776 1777 (.aload_n 0) 1 := ⟨dr_at drL_law_1746 (i := 21) rfl, rfl⟩
theorem dL_1777 : dc code 1777 1779 (.iload 4) 2 := ⟨dr_at drL_law_1746 (i := 22) rfl, rfl⟩
theorem dL_1779 : dc code 1779 1780 (.iconst 2) 1 := ⟨dr_at drL_law_1746 (i := 23) rfl, rfl⟩
theorem dL_1780 : dc code 1780 1781 .iadd 1 := ⟨dr_at drL_law_1746 (i := 24) rfl, rfl⟩
theorem dL_1781 : dc code 1781 1782 .iaload 1 := ⟨dr_at drL_law_1746 (i := 25) rfl, rfl⟩
theorem dL_1782 : dc code 1782 1783 (.aload_n 3) 1 := ⟨dr_at drL_law_1746 (i := 26) rfl, rfl⟩
theorem dL_1783 : dc code 1783 1786 (.invokestatic 262) 3 := ⟨dr_at drL_law_1746 (i := 27) rfl, rfl⟩
theorem dL_1786 : dc code 1786 1788 (.istore 5) 2 := ⟨dr_at drL_law_1746 (i := 28) rfl, rfl⟩
theorem dL_1788 : dc code 1788 1789 (.aload_n 2) 1 := ⟨dr_at drL_law_1746 (i := 29) rfl, rfl⟩
theorem dL_1789 : dc code 1789 1790 (.aload_n 0) 1 := ⟨dr_at drL_law_1746 (i := 30) rfl, rfl⟩
theorem dL_1790 : dc code 1790 1792 (.iload 4) 2 := ⟨dr_at drL_law_1746 (i := 31) rfl, rfl⟩
theorem dL_1792 : dc code 1792 1793 (.iconst 1) 1 := ⟨dr_at drL_law_1746 (i := 32) rfl, rfl⟩
theorem dL_1793 : dc code 1793 1794 .iadd 1 := ⟨dr_at drL_law_1746 (i := 33) rfl, rfl⟩
theorem dL_1794 : dc code 1794 1795 .iaload 1 := ⟨dr_at drL_law_1746 (i := 34) rfl, rfl⟩
theorem dL_1795 : dc code 1795 1796 (.aload_n 0) 1 := ⟨dr_at drL_law_1746 (i := 35) rfl, rfl⟩
theorem dL_1796 : dc code 1796 1798 (.iload 4) 2 := ⟨dr_at drL_law_1746 (i := 36) rfl, rfl⟩
theorem dL_1798 : dc code 1798 1799 (.iconst 2) 1 := ⟨dr_at drL_law_1746 (i := 37) rfl, rfl⟩
theorem dL_1799 : dc code 1799 1800 .iadd 1 := ⟨dr_at drL_law_1746 (i := 38) rfl, rfl⟩
theorem dL_1800 : dc code 1800 1801 .iaload 1 := ⟨dr_at drL_law_1746 (i := 39) rfl, rfl⟩
theorem dL_1801 : dc code 1801 1804 (.invokevirtual 264) 3 := ⟨dr_at drL_law_1746 (i := 40) rfl, rfl⟩
theorem dL_1804 : dc code 1804 1806 (.istore 6) 2 := ⟨dr_at drL_law_1746 (i := 41) rfl, rfl⟩
theorem dL_1806 : dc code 1806 1809 (.goto 176) 3 := ⟨dr_at drL_law_1746 (i := 42) rfl, rfl⟩
theorem dL_1809 : dc code 1809 1810 (.aload_n 1) 1 := ⟨dr_at drL_law_1746 (i := 43) rfl, rfl⟩
theorem dL_1810 : dc code 1810 1811 (.aload_n 0) 1 := ⟨dr_at drL_law_1746 (i := 44) rfl, rfl⟩
theorem drL_law_1811 : ([(1811, (.iload 4), 2), (1813, (.iconst 1), 1), (1814, .iadd, 1), (1815, .iaload, 1), (1816, (.aload_n 0), 1), (1817, (.iload 4), 2), (1819, (.iconst 2), 1), (1820, .iadd, 1), (1821, .iaload, 1), (1822, (.aload_n 3), 1), (1823, (.invokestatic 265), 3), (1826, (.istore 5), 2), (1828, (.aload_n 2), 1), (1829, (.aload_n 0), 1), (1830, (.iload 4), 2), (1832, (.iconst 1), 1), (1833, .iadd, 1), (1834, .iaload, 1), (1835, (.aload_n 0), 1), (1836, (.iload 4), 2), (1838, (.iconst 2), 1), (1839, .iadd, 1), (1840, .iaload, 1), (1841, (.invokevirtual 267), 3), (1844, (.istore 6), 2), (1846, (.goto 136), 3), (1849, (.aload_n 1), 1), (1850, (.aload_n 0), 1), (1851, (.iload 4), 2), (1853, (.iconst 1), 1), (1854, .iadd, 1), (1855, .iaload, 1), (1856, (.aload_n 0), 1), (1857, (.iload 4), 2), (1859, (.iconst 2), 1), (1860, .iadd, 1), (1861, .iaload, 1), (1862, (.ifCond .eq 7), 3), (1865, (.iconst 1), 1), (1866, (.goto 4), 3), (1869, (.iconst 0), 1), (1870, (.aload_n 3), 1), (1871, (.invokestatic 268), 3), (1874, (.istore 5), 2)] : List (Nat × Instr × Nat)).all (fun q => decide (decode code q.1 = .ok q.2)) = true := by decide +kernel
theorem dL_1811 : dc code 1811 1813 (.iload 4) 2 := ⟨dr_at drL_law_1811 (i := 0) rfl, rfl⟩
theorem dL_1813 : dc code 1813 1814 (.iconst 1) 1 := ⟨dr_at drL_law_1811 (i := 1) rfl, rfl⟩
theorem dL_1814 : dc code 1814 1815 .iadd 1 := ⟨dr_at drL_law_1811 (i := 2) rfl, rfl⟩
theorem dL_1815 : dc code 1815 1816 .iaload 1 := ⟨dr_at drL_law_1811 (i := 3) rfl, rfl⟩
theorem dL_1816 : dc code 1816 1817 (.aload_n 0) 1 := ⟨dr_at drL_law_1811 (i := 4) rfl, rfl⟩
theorem dL_1817 : dc code 1817 1819 (.iload 4) 2 := ⟨dr_at drL_law_1811 (i := 5) rfl, rfl⟩
theorem dL_1819 : dc code 1819 1820 (.iconst 2) 1 := ⟨dr_at drL_law_1811 (i := 6) rfl, rfl⟩
theorem dL_1820 : dc code 1820 1821 .iadd 1 := ⟨dr_at drL_law_1811 (i := 7) rfl, rfl⟩
theorem dL_1821 : dc code 1821 1822 .iaload 1 := ⟨dr_at drL_law_1811 (i := 8) rfl, rfl⟩
theorem dL_1822 : dc code 1822 1823 (.aload_n 3) 1 := ⟨dr_at drL_law_1811 (i := 9) rfl, rfl⟩
theorem dL_1823 : dc code 1823 1826 (.invokestatic 265) 3 := ⟨dr_at drL_law_1811 (i := 10) rfl, rfl⟩
theorem dL_1826 : dc code 1826 1828 (.istore 5) 2 := ⟨dr_at drL_law_1811 (i := 11) rfl, rfl⟩
theorem dL_1828 : dc code 1828 1829 (.aload_n 2) 1 := ⟨dr_at drL_law_1811 (i := 12) rfl, rfl⟩
theorem dL_1829 : dc code 1829 1830 (.aload_n 0) 1 := ⟨dr_at drL_law_1811 (i := 13) rfl, rfl⟩
theorem dL_1830 : dc code 1830 1832 (.iload 4) 2 := ⟨dr_at drL_law_1811 (i := 14) rfl, rfl⟩
theorem dL_1832 : dc code 1832 1833 (.iconst 1) 1 := ⟨dr_at drL_law_1811 (i := 15) rfl, rfl⟩
theorem dL_1833 : dc code 1833 1834 .iadd 1 := ⟨dr_at drL_law_1811 (i := 16) rfl, rfl⟩
theorem dL_1834 : dc code 1834 1835 .iaload 1 := ⟨dr_at drL_law_1811 (i := 17) rfl, rfl⟩
theorem dL_1835 : dc code 1835 1836 (.aload_n 0) 1 := ⟨dr_at drL_law_1811 (i := 18) rfl, rfl⟩
theorem dL_1836 : dc code 1836 1838 (.iload 4) 2 := ⟨dr_at drL_law_1811 (i := 19) rfl, rfl⟩
theorem dL_1838 : dc code 1838 1839 (.iconst 2) 1 := ⟨dr_at drL_law_1811 (i := 20) rfl, rfl⟩
theorem dL_1839 : dc code 1839 1840 .iadd 1 := ⟨dr_at drL_law_1811 (i := 21) rfl, rfl⟩
theorem dL_1840 : dc code 1840 1841 .iaload 1 := ⟨dr_at drL_law_1811 (i := 22) rfl, rfl⟩
theorem dL_1841 : dc code 1841 1844 (.invokevirtual 267) 3 := ⟨dr_at drL_law_1811 (i := 23) rfl, rfl⟩
theorem dL_1844 : dc code 1844 1846 (.istore 6) 2 := ⟨dr_at drL_law_1811 (i := 24) rfl, rfl⟩
theorem dL_1846 : dc code 1846 1849 (.goto 136) 3 := ⟨dr_at drL_law_1811 (i := 25) rfl, rfl⟩
theorem dL_1849 : dc code 1849 1850 (.aload_n 1) 1 := ⟨dr_at drL_law_1811 (i := 26) rfl, rfl⟩
theorem dL_1850 : dc code 1850 1851 (.aload_n 0) 1 := ⟨dr_at drL_law_1811 (i := 27) rfl, rfl⟩
theorem dL_1851 : dc code 1851 1853 (.iload 4) 2 := ⟨dr_at drL_law_1811 (i := 28) rfl, rfl⟩
theorem dL_1853 : dc code 1853 1854 (.iconst 1) 1 := ⟨dr_at drL_law_1811 (i := 29) rfl, rfl⟩
theorem dL_1854 : dc code 1854 1855 .iadd 1 := ⟨dr_at drL_law_1811 (i := 30) rfl, rfl⟩
theorem dL_1855 : dc code 1855 1856 .iaload 1 := ⟨dr_at drL_law_1811 (i := 31) rfl, rfl⟩
theorem dL_1856 : dc code 1856 1857 (.aload_n 0) 1 := ⟨dr_at drL_law_1811 (i := 32) rfl, rfl⟩
theorem dL_1857 : dc code 1857 1859 (.iload 4) 2 := ⟨dr_at drL_law_1811 (i := 33) rfl, rfl⟩
theorem dL_1859 : dc code 1859 1860 (.iconst 2) 1 := ⟨dr_at drL_law_1811 (i := 34) rfl, rfl⟩
theorem dL_1860 : dc code 1860 1861 .iadd 1 := ⟨dr_at drL_law_1811 (i := 35) rfl, rfl⟩
theorem dL_1861 : dc code 1861 1862 .iaload 1 := ⟨dr_at drL_law_1811 (i := 36) rfl, rfl⟩
theorem dL_1862 : dc code 1862 1865 (.ifCond .eq 7) 3 := ⟨dr_at drL_law_1811 (i := 37) rfl, rfl⟩
theorem dL_1865 : dc code 1865 1866 (.iconst 1) 1 := ⟨dr_at drL_law_1811 (i := 38) rfl, rfl⟩
theorem dL_1866 : dc code 1866 1869 (.goto 4) 3 := ⟨dr_at drL_law_1811 (i := 39) rfl, rfl⟩
theorem dL_1869 : dc code 1869 1870 (.iconst 0) 1 := ⟨dr_at drL_law_1811 (i := 40) rfl, rfl⟩
theorem dL_1870 : dc code 1870 1871 (.aload_n 3) 1 := ⟨dr_at drL_law_1811 (i := 41) rfl, rfl⟩
theorem dL_1871 : dc code 1871 1874 (.invokestatic 268) 3 := ⟨dr_at drL_law_1811 (i := 42) rfl, rfl⟩
theorem dL_1874 : dc code 1874 1876 (.istore 5) 2 := ⟨dr_at drL_law_1811 (i := 43) rfl, rfl⟩
theorem drL_law_1876 : ([(1876, (.aload_n 2), 1), (1877, (.aload_n 0), 1), (1878, (.iload 4), 2), (1880, (.iconst 1), 1), (1881, .iadd, 1), (1882, .iaload, 1), (1883, (.aload_n 0), 1), (1884, (.iload 4), 2), (1886, (.iconst 2), 1), (1887, .iadd, 1), (1888, .iaload, 1), (1889, (.ifCond .eq 7), 3), (1892, (.iconst 1), 1), (1893, (.goto 4), 3), (1896, (.iconst 0), 1), (1897, (.invokevirtual 270), 3), (1900, (.istore 6), 2), (1902, (.goto 80), 3), (1905, (.aload_n 1), 1), (1906, (.aload_n 0), 1), (1907, (.iload 4), 2), (1909, (.iconst 1), 1), (1910, .iadd, 1), (1911, .iaload, 1), (1912, (.aload_n 3), 1), (1913, (.invokestatic 271), 3), (1916, (.istore 5), 2), (1918, (.aload_n 2), 1), (1919, (.aload_n 0), 1), (1920, (.iload 4), 2), (1922, (.iconst 1), 1), (1923, .iadd, 1), (1924, .iaload, 1), (1925, (.invokevirtual 273), 3), (1928, (.istore 6), 2), (1930, (.goto 52), 3), (1933, (.aload_n 1), 1), (1934, (.invokevirtual 274), 3), (1937, (.aload_n 2), 1), (1938, (.invokevirtual 277), 3), (1941, (.goto 41), 3), (1944, (.aload_n 1), 1)] : List (Nat × Instr × Nat)).all (fun q => decide (decode code q.1 = .ok q.2)) = true := by decide +kernel
theorem dL_1876 : dc code 1876 1877 (.aload_n 2) 1 := ⟨dr_at drL_law_1876 (i := 0) rfl, rfl⟩
theorem dL_1877 : dc code 1877 1878 (.aload_n 0) 1 := ⟨dr_at drL_law_1876 (i := 1) rfl, rfl⟩
theorem dL_1878 : dc code 1878 1880 (.iload 4) 2 := ⟨dr_at drL_law_1876 (i := 2) rfl, rfl⟩
theorem dL_1880 : dc code 1880 1881 (.iconst 1) 1 := ⟨dr_at drL_law_1876 (i := 3) rfl, rfl⟩
theorem dL_1881 : dc code 1881 1882 .iadd 1 := ⟨dr_at drL_law_1876 (i := 4) rfl, rfl⟩
theorem dL_1882 : dc code 1882 1883 .iaload 1 := ⟨dr_at drL_law_1876 (i := 5) rfl, rfl⟩
theorem dL_1883 : dc code 1883 1884 (.aload_n 0) 1 := ⟨dr_at drL_law_1876 (i := 6) rfl, rfl⟩
theorem dL_1884 : dc code 1884 1886 (.iload 4) 2 := ⟨dr_at drL_law_1876 (i := 7) rfl, rfl⟩
theorem dL_1886 : dc code 1886 1887 (.iconst 2) 1 := ⟨dr_at drL_law_1876 (i := 8) rfl, rfl⟩
theorem dL_1887 : dc code 1887 1888 .iadd 1 := ⟨dr_at drL_law_1876 (i := 9) rfl, rfl⟩
theorem dL_1888 : dc code 1888 1889 .iaload 1 := ⟨dr_at drL_law_1876 (i := 10) rfl, rfl⟩
theorem dL_1889 : dc code 1889 1892 (.ifCond .eq 7) 3 := ⟨dr_at drL_law_1876 (i := 11) rfl, rfl⟩
theorem dL_1892 : dc code 1892 1893 (.iconst 1) 1 := ⟨dr_at drL_law_1876 (i := 12) rfl, rfl⟩
theorem dL_1893 : dc code 1893 1896 (.goto 4) 3 := ⟨dr_at drL_law_1876 (i := 13) rfl, rfl⟩
theorem dL_1896 : dc code 1896 1897 (.iconst 0) 1 := ⟨dr_at drL_law_1876 (i := 14) rfl, rfl⟩
theorem dL_1897 : dc code 1897 1900 (.invokevirtual 270) 3 := ⟨dr_at drL_law_1876 (i := 15) rfl, rfl⟩
theorem dL_1900 : dc code 1900 1902 (.istore 6) 2 := ⟨dr_at drL_law_1876 (i := 16) rfl, rfl⟩
theorem dL_1902 : dc code 1902 1905 (.goto 80) 3 := ⟨dr_at drL_law_1876 (i := 17) rfl, rfl⟩
theorem dL_1905 : dc code 1905 1906 (.aload_n 1) 1 := ⟨dr_at drL_law_1876 (i := 18) rfl, rfl⟩
theorem dL_1906 : dc code 1906 1907 (.aload_n 0) 1 := ⟨dr_at drL_law_1876 (i := 19) rfl, rfl⟩
theorem dL_1907 : dc code 1907 1909 (.iload 4) 2 := ⟨dr_at drL_law_1876 (i := 20) rfl, rfl⟩
theorem dL_1909 : dc code 1909 1910 (.iconst 1) 1 := ⟨dr_at drL_law_1876 (i := 21) rfl, rfl⟩
theorem dL_1910 : dc code 1910 1911 .iadd 1 := ⟨dr_at drL_law_1876 (i := 22) rfl, rfl⟩
theorem dL_1911 : dc code 1911 1912 .iaload 1 := ⟨dr_at drL_law_1876 (i := 23) rfl, rfl⟩
theorem dL_1912 : dc code 1912 1913 (.aload_n 3) 1 := ⟨dr_at drL_law_1876 (i := 24) rfl, rfl⟩
theorem dL_1913 : dc code 1913 1916 (.invokestatic 271) 3 := ⟨dr_at drL_law_1876 (i := 25) rfl, rfl⟩
theorem dL_1916 : dc code 1916 1918 (.istore 5) 2 := ⟨dr_at drL_law_1876 (i := 26) rfl, rfl⟩
theorem dL_1918 : dc code 1918 1919 (.aload_n 2) 1 := ⟨dr_at drL_law_1876 (i := 27) rfl, rfl⟩
theorem dL_1919 : dc code 1919 1920 (.aload_n 0) 1 := ⟨dr_at drL_law_1876 (i := 28) rfl, rfl⟩
theorem dL_1920 : dc code 1920 1922 (.iload 4) 2 := ⟨dr_at drL_law_1876 (i := 29) rfl, rfl⟩
theorem dL_1922 : dc code 1922 1923 (.iconst 1) 1 := ⟨dr_at drL_law_1876 (i := 30) rfl, rfl⟩
theorem dL_1923 : dc code 1923 1924 .iadd 1 := ⟨dr_at drL_law_1876 (i := 31) rfl, rfl⟩
theorem dL_1924 : dc code 1924 1925 .iaload 1 := ⟨dr_at drL_law_1876 (i := 32) rfl, rfl⟩
theorem dL_1925 : dc code 1925 1928 (.invokevirtual 273) 3 := ⟨dr_at drL_law_1876 (i := 33) rfl, rfl⟩
theorem dL_1928 : dc code 1928 1930 (.istore 6) 2 := ⟨dr_at drL_law_1876 (i := 34) rfl, rfl⟩
theorem dL_1930 : dc code 1930 1933 (.goto 52) 3 := ⟨dr_at drL_law_1876 (i := 35) rfl, rfl⟩
theorem dL_1933 : dc code 1933 1934 (.aload_n 1) 1 := ⟨dr_at drL_law_1876 (i := 36) rfl, rfl⟩
theorem dL_1934 : dc code 1934 1937 (.invokevirtual 274) 3 := ⟨dr_at drL_law_1876 (i := 37) rfl, rfl⟩
theorem dL_1937 : dc code 1937 1938 (.aload_n 2) 1 := ⟨dr_at drL_law_1876 (i := 38) rfl, rfl⟩
theorem dL_1938 : dc code 1938 1941 (.invokevirtual 277) 3 := ⟨dr_at drL_law_1876 (i := 39) rfl, rfl⟩
theorem dL_1941 : dc code 1941 1944 (.goto 41) 3 := ⟨dr_at drL_law_1876 (i := 40) rfl, rfl⟩
theorem dL_1944 : dc code 1944 1945 (.aload_n 1) 1 := ⟨dr_at drL_law_1876 (i := 41) rfl, rfl⟩
theorem drL_law_1945 : ([(1945, (.invokevirtual 278), 3), (1948, .pop, 1), (1949, (.aload_n 2), 1), (1950, (.invokevirtual 282), 3), (1953, .pop, 1), (1954, (.goto 28), 3), (1957, (.aload_n 1), 1), (1958, (.aload_n 0), 1), (1959, (.iload 4), 2), (1961, (.iconst 1), 1), (1962, .iadd, 1), (1963, .iaload, 1), (1964, (.invokevirtual 283), 3), (1967, .pop, 1), (1968, (.aload_n 2), 1), (1969, (.aload_n 0), 1), (1970, (.iload 4), 2), (1972, (.iconst 1), 1), (1973, .iadd, 1), (1974, .iaload, 1), (1975, (.invokevirtual 286), 3), (1978, .pop, 1), (1979, (.goto 3), 3), (1982, (.iinc 4 7), 3), (1985, (.goto (-1962)), 3), (1988, (.iconst 1), 1), (1989, .ireturn, 1)] : List (Nat × Instr × Nat)).all (fun q => decide (decode code q.1 = .ok q.2)) = true := by decide +kernel
theorem dL_1945 : dc code 1945 1948 (.invokevirtual 278) 3 := ⟨dr_at drL_law_1945 (i := 0) rfl, rfl⟩
theorem dL_1948 : dc code 1948 1949 .pop 1 := ⟨dr_at drL_law_1945 (i := 1) rfl, rfl⟩
theorem dL_1949 : dc code 1949 1950 (.aload_n 2) 1 := ⟨dr_at drL_law_1945 (i := 2) rfl, rfl⟩
theorem dL_1950 : dc code 1950 1953 (.invokevirtual 282) 3 := ⟨dr_at drL_law_1945 (i := 3) rfl, rfl⟩
theorem dL_1953 : dc code 1953 1954 .pop 1 := ⟨dr_at drL_law_1945 (i := 4) rfl, rfl⟩
theorem dL_1954 : dc code 1954 1957 (.goto 28) 3 := ⟨dr_at drL_law_1945 (i := 5) rfl, rfl⟩
theorem dL_1957 : dc code 1957 1958 (.aload_n 1) 1 := ⟨dr_at drL_law_1945 (i := 6) rfl, rfl⟩
theorem dL_1958 : dc code 1958 1959 (.aload_n 0) 1 := ⟨dr_at drL_law_1945 (i := 7) rfl, rfl⟩
theorem dL_1959 : dc code 1959 1961 (.iload 4) 2 := ⟨dr_at drL_law_1945 (i := 8) rfl, rfl⟩
theorem dL_1961 : dc code 1961 1962 (.iconst 1) 1 := ⟨dr_at drL_law_1945 (i := 9) rfl, rfl⟩
theorem dL_1962 : dc code 1962 1963 .iadd 1 := ⟨dr_at drL_law_1945 (i := 10) rfl, rfl⟩
theorem dL_1963 : dc code 1963 1964 .iaload 1 := ⟨dr_at drL_law_1945 (i := 11) rfl, rfl⟩
theorem dL_1964 : dc code 1964 1967 (.invokevirtual 283) 3 := ⟨dr_at drL_law_1945 (i := 12) rfl, rfl⟩
theorem dL_1967 : dc code 1967 1968 .pop 1 := ⟨dr_at drL_law_1945 (i := 13) rfl, rfl⟩
theorem dL_1968 : dc code 1968 1969 (.aload_n 2) 1 := ⟨dr_at drL_law_1945 (i := 14) rfl, rfl⟩
theorem dL_1969 : dc code 1969 1970 (.aload_n 0) 1 := ⟨dr_at drL_law_1945 (i := 15) rfl, rfl⟩
theorem dL_1970 : dc code 1970 1972 (.iload 4) 2 := ⟨dr_at drL_law_1945 (i := 16) rfl, rfl⟩
theorem dL_1972 : dc code 1972 1973 (.iconst 1) 1 := ⟨dr_at drL_law_1945 (i := 17) rfl, rfl⟩
theorem dL_1973 : dc code 1973 1974 .iadd 1 := ⟨dr_at drL_law_1945 (i := 18) rfl, rfl⟩
theorem dL_1974 : dc code 1974 1975 .iaload 1 := ⟨dr_at drL_law_1945 (i := 19) rfl, rfl⟩
theorem dL_1975 : dc code 1975 1978 (.invokevirtual 286) 3 := ⟨dr_at drL_law_1945 (i := 20) rfl, rfl⟩
theorem dL_1978 : dc code 1978 1979 .pop 1 := ⟨dr_at drL_law_1945 (i := 21) rfl, rfl⟩
theorem dL_1979 : dc code 1979 1982 (.goto 3) 3 := ⟨dr_at drL_law_1945 (i := 22) rfl, rfl⟩
theorem dL_1982 : dc code 1982 1985 (.iinc 4 7) 3 := ⟨dr_at drL_law_1945 (i := 23) rfl, rfl⟩
theorem dL_1985 : dc code 1985 1988 (.goto (-1962)) 3 := ⟨dr_at drL_law_1945 (i := 24) rfl, rfl⟩
theorem dL_1988 : dc code 1988 1989 (.iconst 1) 1 := ⟨dr_at drL_law_1945 (i := 25) rfl, rfl⟩
theorem dL_1989 : dc code 1989 1990 .ireturn 1 := ⟨dr_at drL_law_1945 (i := 26) rfl, rfl⟩
