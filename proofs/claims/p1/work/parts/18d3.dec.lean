theorem drL_law_1502 : ([(1502, (.iload 6), 2), (1504, .i2l, 1), (1505, .lcmp, 1), (1506, (.ifCond .eq 5), 3), (1509, (.iconst 0), 1), (1511, (.goto 1271), 3), (1514, (.aload_n 1), 1), (1515, (.aload_n 0), 1), (1516, (.iload 4), 2), (1518, (.iconst 1), 1), (1519, .iadd, 1), (1520, .iaload, 1), (1521, (.aload_n 0), 1), (1522, (.iload 4), 2), (1524, (.iconst 2), 1), (1525, .iadd, 1), (1526, .iaload, 1), (1527, (.aload_n 0), 1), (1528, (.iload 4), 2), (1530, (.iconst 3), 1), (1531, .iadd, 1), (1532, .iaload, 1), (1533, (.aload_n 3), 1), (1534, (.invokestatic 213), 3), (1537, (.istore 5), 2), (1539, (.aload_n 2), 1), (1540, (.aload_n 0), 1), (1541, (.iload 4), 2), (1543, (.iconst 1), 1), (1544, .iadd, 1), (1545, .iaload, 1), (1546, (.aload_n 0), 1), (1547, (.iload 4), 2), (1549, (.iconst 2), 1), (1550, .iadd, 1), (1551, .iaload, 1), (1552, (.aload_n 0), 1), (1553, (.iload 4), 2), (1555, (.iconst 3), 1), (1556, .iadd, 1), (1557, .iaload, 1), (1558, (.invokevirtual 215), 3), (1561, (.istore 6), 2), (1563, (.aload_n 2), 1), (1564, (.invokevirtual 150), 3), (1567, (.iload 5), 2), (1569, (.if_icmp .eq 5), 3), (1572, (.iconst 0), 1), (1574, (.iload 5), 2), (1576, (.ifCond .ne 15), 3), (1579, (.aload_n 3), 1), (1580, (.iconst 0), 1), (1581, .laload, 1)] : List (Nat × Instr × Nat)).all (fun q => decide (decode code q.1 = .ok q.2)) = true := by decide +kernel
theorem dL_1502 : dc code 1502 1504 (.iload 6) 2 := ⟨dr_at drL_law_1502 (i := 0) rfl, rfl⟩
theorem dL_1504 : dc code 1504 1505 .i2l 1 := ⟨dr_at drL_law_1502 (i := 1) rfl, rfl⟩
theorem dL_1505 : dc code 1505 1506 .lcmp 1 := ⟨dr_at drL_law_1502 (i := 2) rfl, rfl⟩
theorem dL_1506 : dc code 1506 1509 (.ifCond .eq 5) 3 := ⟨dr_at drL_law_1502 (i := 3) rfl, rfl⟩
theorem dL_1509 : dc code 1509 1510 (.iconst 0) 1 := ⟨dr_at drL_law_1502 (i := 4) rfl, rfl⟩
theorem dL_1511 : dc code 1511 1514 (.goto 1271) 3 := ⟨dr_at drL_law_1502 (i := 5) rfl, rfl⟩
theorem dL_1514 : dc code 1514 1515 (.aload_n 1) 1 := ⟨dr_at drL_law_1502 (i := 6) rfl, rfl⟩
theorem dL_1515 : dc code 1515 1516 (.aload_n 0) 1 := ⟨dr_at drL_law_1502 (i := 7) rfl, rfl⟩
theorem dL_1516 : dc code 1516 1518 (.iload 4) 2 := ⟨dr_at drL_law_1502 (i := 8) rfl, rfl⟩
theorem dL_1518 : dc code 1518 1519 (.iconst 1) 1 := ⟨dr_at drL_law_1502 (i := 9) rfl, rfl⟩
theorem dL_1519 : dc code 1519 1520 .iadd 1 := ⟨dr_at drL_law_1502 (i := 10) rfl, rfl⟩
theorem dL_1520 : dc code 1520 1521 .iaload 1 := ⟨dr_at drL_law_1502 (i := 11) rfl, rfl⟩
theorem dL_1521 : dc code 1521 1522 (.aload_n 0) 1 := ⟨dr_at drL_law_1502 (i := 12) rfl, rfl⟩
theorem dL_1522 : dc code 1522 1524 (.iload 4) 2 := ⟨dr_at drL_law_1502 (i := 13) rfl, rfl⟩
theorem dL_1524 : dc code 1524 1525 (.iconst 2) 1 := ⟨dr_at drL_law_1502 (i := 14) rfl, rfl⟩
theorem dL_1525 : dc code 1525 1526 .iadd 1 := ⟨dr_at drL_law_1502 (i := 15) rfl, rfl⟩
theorem dL_1526 : dc code 1526 1527 .iaload 1 := ⟨dr_at drL_law_1502 (i := 16) rfl, rfl⟩
theorem dL_1527 : dc code 1527 1528 (.aload_n 0) 1 := ⟨dr_at drL_law_1502 (i := 17) rfl, rfl⟩
theorem dL_1528 : dc code 1528 1530 (.iload 4) 2 := ⟨dr_at drL_law_1502 (i := 18) rfl, rfl⟩
theorem dL_1530 : dc code 1530 1531 (.iconst 3) 1 := ⟨dr_at drL_law_1502 (i := 19) rfl, rfl⟩
theorem dL_1531 : dc code 1531 1532 .iadd 1 := ⟨dr_at drL_law_1502 (i := 20) rfl, rfl⟩
theorem dL_1532 : dc code 1532 1533 .iaload 1 := ⟨dr_at drL_law_1502 (i := 21) rfl, rfl⟩
theorem dL_1533 : dc code 1533 1534 (.aload_n 3) 1 := ⟨dr_at drL_law_1502 (i := 22) rfl, rfl⟩
theorem dL_1534 : dc code 1534 1537 (.invokestatic 213) 3 := ⟨dr_at drL_law_1502 (i := 23) rfl, rfl⟩
theorem dL_1537 : dc code 1537 1539 (.istore 5) 2 := ⟨dr_at drL_law_1502 (i := 24) rfl, rfl⟩
theorem dL_1539 : dc code 1539 1540 (.aload_n 2) 1 := ⟨dr_at drL_law_1502 (i := 25) rfl, rfl⟩
theorem dL_1540 : dc code 1540 1541 (.aload_n 0) 1 := ⟨dr_at drL_law_1502 (i := 26) rfl, rfl⟩
theorem dL_1541 : dc code 1541 1543 (.iload 4) 2 := ⟨dr_at drL_law_1502 (i := 27) rfl, rfl⟩
theorem dL_1543 : dc code 1543 1544 (.iconst 1) 1 := ⟨dr_at drL_law_1502 (i := 28) rfl, rfl⟩
theorem dL_1544 : dc code 1544 1545 .iadd 1 := ⟨dr_at drL_law_1502 (i := 29) rfl, rfl⟩
theorem dL_1545 : dc code 1545 1546 .iaload 1 := ⟨dr_at drL_law_1502 (i := 30) rfl, rfl⟩
theorem dL_1546 : dc code 1546 1547 (.aload_n 0) 1 := ⟨dr_at drL_law_1502 (i := 31) rfl, rfl⟩
theorem dL_1547 : dc code 1547 1549 (.iload 4) 2 := ⟨dr_at drL_law_1502 (i := 32) rfl, rfl⟩
theorem dL_1549 : dc code 1549 1550 (.iconst 2) 1 := ⟨dr_at drL_law_1502 (i := 33) rfl, rfl⟩
theorem dL_1550 : dc code 1550 1551 .iadd 1 := ⟨dr_at drL_law_1502 (i := 34) rfl, rfl⟩
theorem dL_1551 : dc code 1551 1552 .iaload 1 := ⟨dr_at drL_law_1502 (i := 35) rfl, rfl⟩
theorem dL_1552 : dc code 1552 1553 (.aload_n 0) 1 := ⟨dr_at drL_law_1502 (i := 36) rfl, rfl⟩
theorem dL_1553 : dc code 1553 1555 (.iload 4) 2 := ⟨dr_at drL_law_1502 (i := 37) rfl, rfl⟩
theorem dL_1555 : dc code 1555 1556 (.iconst 3) 1 := ⟨dr_at drL_law_1502 (i := 38) rfl, rfl⟩
theorem dL_1556 : dc code 1556 1557 .iadd 1 := ⟨dr_at drL_law_1502 (i := 39) rfl, rfl⟩
theorem dL_1557 : dc code 1557 1558 .iaload 1 := ⟨dr_at drL_law_1502 (i := 40) rfl, rfl⟩
theorem dL_1558 : dc code 1558 1561 (.invokevirtual 215) 3 := ⟨dr_at drL_law_1502 (i := 41) rfl, rfl⟩
theorem dL_1561 : dc code 1561 1563 (.istore 6) 2 := ⟨dr_at drL_law_1502 (i := 42) rfl, rfl⟩
theorem dL_1563 : dc code 1563 1564 (.aload_n 2) 1 := ⟨dr_at drL_law_1502 (i := 43) rfl, rfl⟩
theorem dL_1564 : dc code 1564 1567 (.invokevirtual 150) 3 := ⟨dr_at drL_law_1502 (i := 44) rfl, rfl⟩
theorem dL_1567 : dc code 1567 1569 (.iload 5) 2 := ⟨dr_at drL_law_1502 (i := 45) rfl, rfl⟩
theorem dL_1569 : dc code 1569 1572 (.if_icmp .eq 5) 3 := ⟨dr_at drL_law_1502 (i := 46) rfl, rfl⟩
theorem dL_1572 : dc code 1572 1573 (.iconst 0) 1 := ⟨dr_at drL_law_1502 (i := 47) rfl, rfl⟩
theorem dL_1574 : dc code 1574 1576 (.iload 5) 2 := ⟨dr_at drL_law_1502 (i := 48) rfl, rfl⟩
theorem dL_1576 : dc code 1576 1579 (.ifCond .ne 15) 3 := ⟨dr_at drL_law_1502 (i := 49) rfl, rfl⟩
theorem dL_1579 : dc code 1579 1580 (.aload_n 3) 1 := ⟨dr_at drL_law_1502 (i := 50) rfl, rfl⟩
theorem dL_1580 : dc code 1580 1581 (.iconst 0) 1 := ⟨dr_at drL_law_1502 (i := 51) rfl, rfl⟩
theorem dL_1581 : dc code 1581 1582 .laload 1 := ⟨dr_at drL_law_1502 (i := 52) rfl, rfl⟩
theorem drL_law_1582 : ([(1582, (.iload 6), 2), (1584, .i2l, 1), (1585, .lcmp, 1), (1586, (.ifCond .eq 5), 3), (1589, (.iconst 0), 1), (1591, (.goto 1191), 3), (1594, (.aload_n 1), 1), (1595, (.invokevirtual 216), 3), (1598, (.aload_n 2), 1), (1599, (.invokevirtual 219), 3), (1602, (.if_icmp .eq 1180), 3), (1605, (.iconst 0), 1), (1607, (.aload_n 1), 1), (1608, (.aload_n 0), 1), (1609, (.iload 4), 2), (1611, (.iconst 1), 1), (1612, .iadd, 1), (1613, .iaload, 1), (1614, (.aload_n 0), 1), (1615, (.iload 4), 2), (1617, (.iconst 2), 1), (1618, .iadd, 1), (1619, .iaload, 1), (1620, (.invokestatic 220), 3), (1623, (.istore 5), 2), (1625, (.aload_n 2), 1), (1626, (.aload_n 0), 1), (1627, (.iload 4), 2), (1629, (.iconst 1), 1), (1630, .iadd, 1), (1631, .iaload, 1), (1632, (.aload_n 0), 1), (1633, (.iload 4), 2), (1635, (.iconst 2), 1), (1636, .iadd, 1), (1637, .iaload, 1), (1638, (.invokevirtual 222), 3), (1641, (.aload_n 2), 1), (1642, (.invokevirtual 150), 3), (1645, (.iload 5), 2), (1647, (.if_icmp .eq 5), 3), (1650, (.iconst 0), 1), (1652, (.goto 1130), 3), (1655, (.aload_n 1), 1), (1656, (.aload_n 0), 1), (1657, (.iload 4), 2), (1659, (.iconst 1), 1), (1660, .iadd, 1), (1661, .iaload, 1), (1662, (.aload_n 0), 1)] : List (Nat × Instr × Nat)).all (fun q => decide (decode code q.1 = .ok q.2)) = true := by decide +kernel
theorem dL_1582 : dc code 1582 1584 (.iload 6) 2 := ⟨dr_at drL_law_1582 (i := 0) rfl, rfl⟩
theorem dL_1584 : dc code 1584 1585 .i2l 1 := ⟨dr_at drL_law_1582 (i := 1) rfl, rfl⟩
theorem dL_1585 : dc code 1585 1586 .lcmp 1 := ⟨dr_at drL_law_1582 (i := 2) rfl, rfl⟩
theorem dL_1586 : dc code 1586 1589 (.ifCond .eq 5) 3 := ⟨dr_at drL_law_1582 (i := 3) rfl, rfl⟩
theorem dL_1589 : dc code 1589 1590 (.iconst 0) 1 := ⟨dr_at drL_law_1582 (i := 4) rfl, rfl⟩
theorem dL_1591 : dc code 1591 1594 (.goto 1191) 3 := ⟨dr_at drL_law_1582 (i := 5) rfl, rfl⟩
theorem dL_1594 : dc code 1594 1595 (.aload_n 1) 1 := ⟨dr_at drL_law_1582 (i := 6) rfl, rfl⟩
theorem dL_1595 : dc code 1595 1598 (.invokevirtual 216) 3 := ⟨dr_at drL_law_1582 (i := 7) rfl, rfl⟩
theorem dL_1598 : dc code 1598 1599 (.aload_n 2) 1 := ⟨dr_at drL_law_1582 (i := 8) rfl, rfl⟩
theorem dL_1599 : dc code 1599 1602 (.invokevirtual 219) 3 := ⟨dr_at drL_law_1582 (i := 9) rfl, rfl⟩
theorem dL_1602 : dc code 1602 1605 (.if_icmp .eq 1180) 3 := ⟨dr_at drL_law_1582 (i := 10) rfl, rfl⟩
theorem dL_1605 : dc code 1605 1606 (.iconst 0) 1 := ⟨dr_at drL_law_1582 (i := 11) rfl, rfl⟩
theorem dL_1607 : dc code 1607 1608 (.aload_n 1) 1 := ⟨dr_at drL_law_1582 (i := 12) rfl, rfl⟩
theorem dL_1608 : dc code 1608 1609 (.aload_n 0) 1 := ⟨dr_at drL_law_1582 (i := 13) rfl, rfl⟩
theorem dL_1609 : dc code 1609 1611 (.iload 4) 2 := ⟨dr_at drL_law_1582 (i := 14) rfl, rfl⟩
theorem dL_1611 : dc code 1611 1612 (.iconst 1) 1 := ⟨dr_at drL_law_1582 (i := 15) rfl, rfl⟩
theorem dL_1612 : dc code 1612 1613 .iadd 1 := ⟨dr_at drL_law_1582 (i := 16) rfl, rfl⟩
theorem dL_1613 : dc code 1613 1614 .iaload 1 := ⟨dr_at drL_law_1582 (i := 17) rfl, rfl⟩
theorem dL_1614 : dc code 1614 1615 (.aload_n 0) 1 := ⟨dr_at drL_law_1582 (i := 18) rfl, rfl⟩
theorem dL_1615 : dc code 1615 1617 (.iload 4) 2 := ⟨dr_at drL_law_1582 (i := 19) rfl, rfl⟩
theorem dL_1617 : dc code 1617 1618 (.iconst 2) 1 := ⟨dr_at drL_law_1582 (i := 20) rfl, rfl⟩
theorem dL_1618 : dc code 1618 1619 .iadd 1 := ⟨dr_at drL_law_1582 (i := 21) rfl, rfl⟩
theorem dL_1619 : dc code 1619 1620 .iaload 1 := ⟨dr_at drL_law_1582 (i := 22) rfl, rfl⟩
theorem dL_1620 : dc code 1620 1623 (.invokestatic 220) 3 := ⟨dr_at drL_law_1582 (i := 23) rfl, rfl⟩
theorem dL_1623 : dc code 1623 1625 (.istore 5) 2 := ⟨dr_at drL_law_1582 (i := 24) rfl, rfl⟩
theorem dL_1625 : dc code 1625 1626 (.aload_n 2) 1 := ⟨dr_at drL_law_1582 (i := 25) rfl, rfl⟩
theorem dL_1626 : dc code 1626 1627 (.aload_n 0) 1 := ⟨dr_at drL_law_1582 (i := 26) rfl, rfl⟩
theorem dL_1627 : dc code 1627 1629 (.iload 4) 2 := ⟨dr_at drL_law_1582 (i := 27) rfl, rfl⟩
theorem dL_1629 : dc code 1629 1630 (.iconst 1) 1 := ⟨dr_at drL_law_1582 (i := 28) rfl, rfl⟩
theorem dL_1630 : dc code 1630 1631 .iadd 1 := ⟨dr_at drL_law_1582 (i := 29) rfl, rfl⟩
theorem dL_1631 : dc code 1631 1632 .iaload 1 := ⟨dr_at drL_law_1582 (i := 30) rfl, rfl⟩
theorem dL_1632 : dc code 1632 1633 (.aload_n 0) 1 := ⟨dr_at drL_law_1582 (i := 31) rfl, rfl⟩
theorem dL_1633 : dc code 1633 1635 (.iload 4) 2 := ⟨dr_at drL_law_1582 (i := 32) rfl, rfl⟩
theorem dL_1635 : dc code 1635 1636 (.iconst 2) 1 := ⟨dr_at drL_law_1582 (i := 33) rfl, rfl⟩
theorem dL_1636 : dc code 1636 1637 .iadd 1 := ⟨dr_at drL_law_1582 (i := 34) rfl, rfl⟩
theorem dL_1637 : dc code 1637 1638 .iaload 1 := ⟨dr_at drL_law_1582 (i := 35) rfl, rfl⟩
theorem dL_1638 : dc code 1638 1641 (.invokevirtual 222) 3 := ⟨dr_at drL_law_1582 (i := 36) rfl, rfl⟩
theorem dL_1641 : dc code 1641 1642 (.aload_n 2) 1 := ⟨dr_at drL_law_1582 (i := 37) rfl, rfl⟩
theorem dL_1642 : dc code 1642 1645 (.invokevirtual 150) 3 := ⟨dr_at drL_law_1582 (i := 38) rfl, rfl⟩
theorem dL_1645 : dc code 1645 1647 (.iload 5) 2 := ⟨dr_at drL_law_1582 (i := 39) rfl, rfl⟩
theorem dL_1647 : dc code 1647 1650 (.if_icmp .eq 5) 3 := ⟨dr_at drL_law_1582 (i := 40) rfl, rfl⟩
theorem dL_1650 : dc code 1650 1651 (.iconst 0) 1 := ⟨dr_at drL_law_1582 (i := 41) rfl, rfl⟩
theorem dL_1652 : dc code 1652 1655 (.goto 1130) 3 := ⟨dr_at drL_law_1582 (i := 42) rfl, rfl⟩
theorem dL_1655 : dc code 1655 1656 (.aload_n 1) 1 := ⟨dr_at drL_law_1582 (i := 43) rfl, rfl⟩
theorem dL_1656 : dc code 1656 1657 (.aload_n 0) 1 := ⟨dr_at drL_law_1582 (i := 44) rfl, rfl⟩
theorem dL_1657 : dc code 1657 1659 (.iload 4) 2 := ⟨dr_at drL_law_1582 (i := 45) rfl, rfl⟩
theorem dL_1659 : dc code 1659 1660 (.iconst 1) 1 := ⟨dr_at drL_law_1582 (i := 46) rfl, rfl⟩
theorem dL_1660 : dc code 1660 1661 .iadd 1 := ⟨dr_at drL_law_1582 (i := 47) rfl, rfl⟩
theorem dL_1661 : dc code 1661 1662 .iaload 1 := ⟨dr_at drL_law_1582 (i := 48) rfl, rfl⟩
theorem dL_1662 : dc code 1662 1663 (.aload_n 0) 1 := ⟨dr_at drL_law_1582 (i := 49) rfl, rfl⟩
theorem drL_law_1663 : ([(1663, (.iload 4), 2), (1665, (.iconst 2), 1), (1666, .iadd, 1), (1667, .iaload, 1), (1668, (.aload_n 0), 1), (1669, (.iload 4), 2), (1671, (.iconst 3), 1), (1672, .iadd, 1), (1673, .iaload, 1), (1674, (.aload_n 0), 1), (1675, (.iload 4), 2), (1677, (.iconst 4), 1), (1678, .iadd, 1), (1679, .iaload, 1), (1680, (.ifCond .eq 7), 3), (1683, (.iconst 1), 1), (1684, (.goto 4), 3), (1687, (.iconst 0), 1), (1688, (.aload_n 0), 1), (1689, (.iload 4), 2), (1691, (.iconst 5), 1), (1692, .iadd, 1), (1693, .iaload, 1), (1694, (.ifCond .eq 7), 3), (1697, (.iconst 1), 1), (1698, (.goto 4), 3), (1701, (.iconst 0), 1), (1702, (.aload_n 3), 1), (1703, (.invokestatic 223), 3), (1706, (.istore 5), 2), (1708, (.aload_n 2), 1), (1709, (.aload_n 0), 1), (1710, (.iload 4), 2), (1712, (.iconst 1), 1), (1713, .iadd, 1), (1714, .iaload, 1), (1715, (.aload_n 0), 1), (1716, (.iload 4), 2), (1718, (.iconst 2), 1), (1719, .iadd, 1), (1720, .iaload, 1), (1721, (.aload_n 0), 1), (1722, (.iload 4), 2), (1724, (.iconst 3), 1), (1725, .iadd, 1), (1726, .iaload, 1), (1727, (.aload_n 0), 1), (1728, (.iload 4), 2)] : List (Nat × Instr × Nat)).all (fun q => decide (decode code q.1 = .ok q.2)) = true := by decide +kernel
theorem dL_1663 : dc code 1663 1665 (.iload 4) 2 := ⟨dr_at drL_law_1663 (i := 0) rfl, rfl⟩
theorem dL_1665 : dc code 1665 1666 (.iconst 2) 1 := ⟨dr_at drL_law_1663 (i := 1) rfl, rfl⟩
theorem dL_1666 : dc code 1666 1667 .iadd 1 := ⟨dr_at drL_law_1663 (i := 2) rfl, rfl⟩
theorem dL_1667 : dc code 1667 1668 .iaload 1 := ⟨dr_at drL_law_1663 (i := 3) rfl, rfl⟩
theorem dL_1668 : dc code 1668 1669 (.aload_n 0) 1 := ⟨dr_at drL_law_1663 (i := 4) rfl, rfl⟩
theorem dL_1669 : dc code 1669 1671 (.iload 4) 2 := ⟨dr_at drL_law_1663 (i := 5) rfl, rfl⟩
theorem dL_1671 : dc code 1671 1672 (.iconst 3) 1 := ⟨dr_at drL_law_1663 (i := 6) rfl, rfl⟩
theorem dL_1672 : dc code 1672 1673 .iadd 1 := ⟨dr_at drL_law_1663 (i := 7) rfl, rfl⟩
theorem dL_1673 : dc code 1673 1674 .iaload 1 := ⟨dr_at drL_law_1663 (i := 8) rfl, rfl⟩
theorem dL_1674 : dc code 1674 1675 (.aload_n 0) 1 := ⟨dr_at drL_law_1663 (i := 9) rfl, rfl⟩
theorem dL_1675 : dc code 1675 1677 (.iload 4) 2 := ⟨dr_at drL_law_1663 (i := 10) rfl, rfl⟩
theorem dL_1677 : dc code 1677 1678 (.iconst 4) 1 := ⟨dr_at drL_law_1663 (i := 11) rfl, rfl⟩
theorem dL_1678 : dc code 1678 1679 .iadd 1 := ⟨dr_at drL_law_1663 (i := 12) rfl, rfl⟩
theorem dL_1679 : dc code 1679 1680 .iaload 1 := ⟨dr_at drL_law_1663 (i := 13) rfl, rfl⟩
theorem dL_1680 : dc code 1680 1683 (.ifCond .eq 7) 3 := ⟨dr_at drL_law_1663 (i := 14) rfl, rfl⟩
theorem dL_1683 : dc code 1683 1684 (.iconst 1) 1 := ⟨dr_at drL_law_1663 (i := 15) rfl, rfl⟩
theorem dL_1684 : dc code 1684 1687 (.goto 4) 3 := ⟨dr_at drL_law_1663 (i := 16) rfl, rfl⟩
theorem dL_1687 : dc code 1687 1688 (.iconst 0) 1 := ⟨dr_at drL_law_1663 (i := 17) rfl, rfl⟩
theorem dL_1688 : dc code 1688 1689 (.aload_n 0) 1 := ⟨dr_at drL_law_1663 (i := 18) rfl, rfl⟩
theorem dL_1689 : dc code 1689 1691 (.iload 4) 2 := ⟨dr_at drL_law_1663 (i := 19) rfl, rfl⟩
theorem dL_1691 : dc code 1691 1692 (.iconst 5) 1 := ⟨dr_at drL_law_1663 (i := 20) rfl, rfl⟩
theorem dL_1692 : dc code 1692 1693 .iadd 1 := ⟨dr_at drL_law_1663 (i := 21) rfl, rfl⟩
theorem dL_1693 : dc code 1693 1694 .iaload 1 := ⟨dr_at drL_law_1663 (i := 22) rfl, rfl⟩
theorem dL_1694 : dc code 1694 1697 (.ifCond .eq 7) 3 := ⟨dr_at drL_law_1663 (i := 23) rfl, rfl⟩
theorem dL_1697 : dc code 1697 1698 (.iconst 1) 1 := ⟨dr_at drL_law_1663 (i := 24) rfl, rfl⟩
theorem dL_1698 : dc code 1698 1701 (.goto 4) 3 := ⟨dr_at drL_law_1663 (i := 25) rfl, rfl⟩
theorem dL_1701 : dc code 1701 1702 (.iconst 0) 1 := ⟨dr_at drL_law_1663 (i := 26) rfl, rfl⟩
theorem dL_1702 : dc code 1702 1703 (.aload_n 3) 1 := ⟨dr_at drL_law_1663 (i := 27) rfl, rfl⟩
theorem dL_1703 : dc code 1703 1706 (.invokestatic 223) 3 := ⟨dr_at drL_law_1663 (i := 28) rfl, rfl⟩
theorem dL_1706 : dc code 1706 1708 (.istore 5) 2 := ⟨dr_at drL_law_1663 (i := 29) rfl, rfl⟩
theorem dL_1708 : dc code 1708 1709 (.aload_n 2) 1 := ⟨dr_at drL_law_1663 (i := 30) rfl, rfl⟩
theorem dL_1709 : dc code 1709 1710 (.aload_n 0) 1 := ⟨dr_at drL_law_1663 (i := 31) rfl, rfl⟩
theorem dL_1710 : dc code 1710 1712 (.iload 4) 2 := ⟨dr_at drL_law_1663 (i := 32) rfl, rfl⟩
theorem dL_1712 : dc code 1712 1713 (.iconst 1) 1 := ⟨dr_at drL_law_1663 (i := 33) rfl, rfl⟩
theorem dL_1713 : dc code 1713 1714 .iadd 1 := ⟨dr_at drL_law_1663 (i := 34) rfl, rfl⟩
theorem dL_1714 : dc code 1714 1715 .iaload 1 := ⟨dr_at drL_law_1663 (i := 35) rfl, rfl⟩
theorem dL_1715 : dc code 1715 1716 (.aload_n 0) 1 := ⟨dr_at drL_law_1663 (i := 36) rfl, rfl⟩
theorem dL_1716 : dc code 1716 1718 (.iload 4) 2 := ⟨dr_at drL_law_1663 (i := 37) rfl, rfl⟩
theorem dL_1718 : dc code 1718 1719 (.iconst 2) 1 := ⟨dr_at drL_law_1663 (i := 38) rfl, rfl⟩
theorem dL_1719 : dc code 1719 1720 .iadd 1 := ⟨dr_at drL_law_1663 (i := 39) rfl, rfl⟩
theorem dL_1720 : dc code 1720 1721 .iaload 1 := ⟨dr_at drL_law_1663 (i := 40) rfl, rfl⟩
theorem dL_1721 : dc code 1721 1722 (.aload_n 0) 1 := ⟨dr_at drL_law_1663 (i := 41) rfl, rfl⟩
theorem dL_1722 : dc code 1722 1724 (.iload 4) 2 := ⟨dr_at drL_law_1663 (i := 42) rfl, rfl⟩
theorem dL_1724 : dc code 1724 1725 (.iconst 3) 1 := ⟨dr_at drL_law_1663 (i := 43) rfl, rfl⟩
theorem dL_1725 : dc code 1725 1726 .iadd 1 := ⟨dr_at drL_law_1663 (i := 44) rfl, rfl⟩
theorem dL_1726 : dc code 1726 1727 .iaload 1 := ⟨dr_at drL_law_1663 (i := 45) rfl, rfl⟩
theorem dL_1727 : dc code 1727 1728 (.aload_n 0) 1 := ⟨dr_at drL_law_1663 (i := 46) rfl, rfl⟩
theorem dL_1728 : dc code 1728 1730 (.iload 4) 2 := ⟨dr_at drL_law_1663 (i := 47) rfl, rfl⟩
theorem drL_law_1730 : ([(1730, (.iconst 4), 1), (1731, .iadd, 1), (1732, .iaload, 1), (1733, (.ifCond .eq 7), 3), (1736, (.iconst 1), 1), (1737, (.goto 4), 3), (1740, (.iconst 0), 1), (1741, (.aload_n 0), 1), (1742, (.iload 4), 2), (1744, (.iconst 5), 1), (1745, .iadd, 1), (1746, .iaload, 1), (1747, (.ifCond .eq 7), 3), (1750, (.iconst 1), 1), (1751, (.goto 4), 3), (1754, (.iconst 0), 1), (1755, (.invokevirtual 226), 3), (1758, (.lstore 6), 2), (1760, (.aload_n 2), 1), (1761, (.invokevirtual 150), 3), (1764, (.iload 5), 2), (1766, (.if_icmp .eq 5), 3), (1769, (.iconst 0), 1), (1771, (.iload 5), 2), (1773, (.ifCond .ne 14), 3), (1776, (.aload_n 3), 1), (1777, (.iconst 0), 1), (1778, .laload, 1), (1779, (.lload 6), 2), (1781, .lcmp, 1), (1782, (.ifCond .eq 5), 3), (1785, (.iconst 0), 1), (1787, (.goto 995), 3), (1790, (.aload_n 1), 1), (1791, (.aload_n 3), 1), (1792, (.invokestatic 227), 3), (1795, (.istore 5), 2), (1797, (.aload_n 2), 1), (1798, (.invokevirtual 229), 3), (1801, (.istore 6), 2), (1803, (.aload_n 2), 1), (1804, (.invokevirtual 150), 3), (1807, (.iload 5), 2), (1809, (.if_icmp .eq 5), 3), (1812, (.iconst 0), 1), (1814, (.iload 5), 2)] : List (Nat × Instr × Nat)).all (fun q => decide (decode code q.1 = .ok q.2)) = true := by decide +kernel
theorem dL_1730 : dc code 1730 1731 (.iconst 4) 1 := ⟨dr_at drL_law_1730 (i := 0) rfl, rfl⟩
theorem dL_1731 : dc code 1731 1732 .iadd 1 := ⟨dr_at drL_law_1730 (i := 1) rfl, rfl⟩
theorem dL_1732 : dc code 1732 1733 .iaload 1 := ⟨dr_at drL_law_1730 (i := 2) rfl, rfl⟩
theorem dL_1733 : dc code 1733 1736 (.ifCond .eq 7) 3 := ⟨dr_at drL_law_1730 (i := 3) rfl, rfl⟩
theorem dL_1736 : dc code 1736 1737 (.iconst 1) 1 := ⟨dr_at drL_law_1730 (i := 4) rfl, rfl⟩
theorem dL_1737 : dc code 1737 1740 (.goto 4) 3 := ⟨dr_at drL_law_1730 (i := 5) rfl, rfl⟩
theorem dL_1740 : dc code 1740 1741 (.iconst 0) 1 := ⟨dr_at drL_law_1730 (i := 6) rfl, rfl⟩
theorem dL_1741 : dc code 1741 1742 (.aload_n 0) 1 := ⟨dr_at drL_law_1730 (i := 7) rfl, rfl⟩
theorem dL_1742 : dc code 1742 1744 (.iload 4) 2 := ⟨dr_at drL_law_1730 (i := 8) rfl, rfl⟩
theorem dL_1744 : dc code 1744 1745 (.iconst 5) 1 := ⟨dr_at drL_law_1730 (i := 9) rfl, rfl⟩
theorem dL_1745 : dc code 1745 1746 .iadd 1 := ⟨dr_at drL_law_1730 (i := 10) rfl, rfl⟩
theorem dL_1746 : dc code 1746 1747 .iaload 1 := ⟨dr_at drL_law_1730 (i := 11) rfl, rfl⟩
theorem dL_1747 : dc code 1747 1750 (.ifCond .eq 7) 3 := ⟨dr_at drL_law_1730 (i := 12) rfl, rfl⟩
theorem dL_1750 : dc code 1750 1751 (.iconst 1) 1 := ⟨dr_at drL_law_1730 (i := 13) rfl, rfl⟩
theorem dL_1751 : dc code 1751 1754 (.goto 4) 3 := ⟨dr_at drL_law_1730 (i := 14) rfl, rfl⟩
theorem dL_1754 : dc code 1754 1755 (.iconst 0) 1 := ⟨dr_at drL_law_1730 (i := 15) rfl, rfl⟩
theorem dL_1755 : dc code 1755 1758 (.invokevirtual 226) 3 := ⟨dr_at drL_law_1730 (i := 16) rfl, rfl⟩
theorem dL_1758 : dc code 1758 1760 (.lstore 6) 2 := ⟨dr_at drL_law_1730 (i := 17) rfl, rfl⟩
theorem dL_1760 : dc code 1760 1761 (.aload_n 2) 1 := ⟨dr_at drL_law_1730 (i := 18) rfl, rfl⟩
theorem dL_1761 : dc code 1761 1764 (.invokevirtual 150) 3 := ⟨dr_at drL_law_1730 (i := 19) rfl, rfl⟩
theorem dL_1764 : dc code 1764 1766 (.iload 5) 2 := ⟨dr_at drL_law_1730 (i := 20) rfl, rfl⟩
theorem dL_1766 : dc code 1766 1769 (.if_icmp .eq 5) 3 := ⟨dr_at drL_law_1730 (i := 21) rfl, rfl⟩
theorem dL_1769 : dc code 1769 1770 (.iconst 0) 1 := ⟨dr_at drL_law_1730 (i := 22) rfl, rfl⟩
theorem dL_1771 : dc code 1771 1773 (.iload 5) 2 := ⟨dr_at drL_law_1730 (i := 23) rfl, rfl⟩
theorem dL_1773 : dc code 1773 1776 (.ifCond .ne 14) 3 := ⟨dr_at drL_law_1730 (i := 24) rfl, rfl⟩
theorem dL_1776 : dc code 1776 1777 (.aload_n 3) 1 := ⟨dr_at drL_law_1730 (i := 25) rfl, rfl⟩
theorem dL_1777 : dc code 1777 1778 (.iconst 0) 1 := ⟨dr_at drL_law_1730 (i := 26) rfl, rfl⟩
theorem dL_1778 : dc code 1778 1779 .laload 1 := ⟨dr_at drL_law_1730 (i := 27) rfl, rfl⟩
theorem dL_1779 : dc code 1779 1781 (.lload 6) 2 := ⟨dr_at drL_law_1730 (i := 28) rfl, rfl⟩
theorem dL_1781 : dc code 1781 1782 .lcmp 1 := ⟨dr_at drL_law_1730 (i := 29) rfl, rfl⟩
theorem dL_1782 : dc code 1782 1785 (.ifCond .eq 5) 3 := ⟨dr_at drL_law_1730 (i := 30) rfl, rfl⟩
theorem dL_1785 : dc code 1785 1786 (.iconst 0) 1 := ⟨dr_at drL_law_1730 (i := 31) rfl, rfl⟩
theorem dL_1787 : dc code 1787 1790 (.goto 995) 3 := ⟨dr_at drL_law_1730 (i := 32) rfl, rfl⟩
theorem dL_1790 : dc code 1790 1791 (.aload_n 1) 1 := ⟨dr_at drL_law_1730 (i := 33) rfl, rfl⟩
theorem dL_1791 : dc code 1791 1792 (.aload_n 3) 1 := ⟨dr_at drL_law_1730 (i := 34) rfl, rfl⟩
theorem dL_1792 : dc code 1792 1795 (.invokestatic 227) 3 := ⟨dr_at drL_law_1730 (i := 35) rfl, rfl⟩
theorem dL_1795 : dc code 1795 1797 (.istore 5) 2 := ⟨dr_at drL_law_1730 (i := 36) rfl, rfl⟩
theorem dL_1797 : dc code 1797 1798 (.aload_n 2) 1 := ⟨dr_at drL_law_1730 (i := 37) rfl, rfl⟩
theorem dL_1798 : dc code 1798 1801 (.invokevirtual 229) 3 := ⟨dr_at drL_law_1730 (i := 38) rfl, rfl⟩
theorem dL_1801 : dc code 1801 1803 (.istore 6) 2 := ⟨dr_at drL_law_1730 (i := 39) rfl, rfl⟩
theorem dL_1803 : dc code 1803 1804 (.aload_n 2) 1 := ⟨dr_at drL_law_1730 (i := 40) rfl, rfl⟩
theorem dL_1804 : dc code 1804 1807 (.invokevirtual 150) 3 := ⟨dr_at drL_law_1730 (i := 41) rfl, rfl⟩
theorem dL_1807 : dc code 1807 1809 (.iload 5) 2 := ⟨dr_at drL_law_1730 (i := 42) rfl, rfl⟩
theorem dL_1809 : dc code 1809 1812 (.if_icmp .eq 5) 3 := ⟨dr_at drL_law_1730 (i := 43) rfl, rfl⟩
theorem dL_1812 : dc code 1812 1813 (.iconst 0) 1 := ⟨dr_at drL_law_1730 (i := 44) rfl, rfl⟩
theorem dL_1814 : dc code 1814 1816 (.iload 5) 2 := ⟨dr_at drL_law_1730 (i := 45) rfl, rfl⟩
theorem drL_law_1816 : ([(1816, (.ifCond .ne 15), 3), (1819, (.aload_n 3), 1), (1820, (.iconst 0), 1), (1821, .laload, 1), (1822, (.iload 6), 2), (1824, .i2l, 1), (1825, .lcmp, 1), (1826, (.ifCond .eq 5), 3), (1829, (.iconst 0), 1), (1831, (.goto 951), 3), (1834, (.aload_n 1), 1), (1835, (.aload_n 0), 1), (1836, (.iload 4), 2), (1838, (.iconst 1), 1), (1839, .iadd, 1), (1840, .iaload, 1), (1841, (.aload_n 0), 1), (1842, (.iload 4), 2), (1844, (.iconst 2), 1), (1845, .iadd, 1), (1846, .iaload, 1), (1847, (.aload_n 3), 1), (1848, (.invokestatic 230), 3), (1851, (.istore 5), 2), (1853, (.aload_n 2), 1), (1854, (.aload_n 0), 1), (1855, (.iload 4), 2), (1857, (.iconst 1), 1), (1858, .iadd, 1), (1859, .iaload, 1), (1860, (.aload_n 0), 1), (1861, (.iload 4), 2), (1863, (.iconst 2), 1), (1864, .iadd, 1), (1865, .iaload, 1), (1866, (.invokevirtual 232), 3), (1869, (.istore 6), 2), (1871, (.aload_n 2), 1), (1872, (.invokevirtual 150), 3), (1875, (.iload 5), 2), (1877, (.if_icmp .eq 5), 3), (1880, (.iconst 0), 1), (1882, (.iload 5), 2), (1884, (.ifCond .ne 15), 3)] : List (Nat × Instr × Nat)).all (fun q => decide (decode code q.1 = .ok q.2)) = true := by decide +kernel
theorem dL_1816 : dc code 1816 1819 (.ifCond .ne 15) 3 := ⟨dr_at drL_law_1816 (i := 0) rfl, rfl⟩
theorem dL_1819 : dc code 1819 1820 (.aload_n 3) 1 := ⟨dr_at drL_law_1816 (i := 1) rfl, rfl⟩
theorem dL_1820 : dc code 1820 1821 (.iconst 0) 1 := ⟨dr_at drL_law_1816 (i := 2) rfl, rfl⟩
theorem dL_1821 : dc code 1821 1822 .laload 1 := ⟨dr_at drL_law_1816 (i := 3) rfl, rfl⟩
theorem dL_1822 : dc code 1822 1824 (.iload 6) 2 := ⟨dr_at drL_law_1816 (i := 4) rfl, rfl⟩
theorem dL_1824 : dc code 1824 1825 .i2l 1 := ⟨dr_at drL_law_1816 (i := 5) rfl, rfl⟩
theorem dL_1825 : dc code 1825 1826 .lcmp 1 := ⟨dr_at drL_law_1816 (i := 6) rfl, rfl⟩
theorem dL_1826 : dc code 1826 1829 (.ifCond .eq 5) 3 := ⟨dr_at drL_law_1816 (i := 7) rfl, rfl⟩
theorem dL_1829 : dc code 1829 1830 (.iconst 0) 1 := ⟨dr_at drL_law_1816 (i := 8) rfl, rfl⟩
theorem dL_1831 : dc code 1831 1834 (.goto 951) 3 := ⟨dr_at drL_law_1816 (i := 9) rfl, rfl⟩
theorem dL_1834 : dc code 1834 1835 (.aload_n 1) 1 := ⟨dr_at drL_law_1816 (i := 10) rfl, rfl⟩
theorem dL_1835 : dc code 1835 1836 (.aload_n 0) 1 := ⟨dr_at drL_law_1816 (i := 11) rfl, rfl⟩
theorem dL_1836 : dc code 1836 1838 (.iload 4) 2 := ⟨dr_at drL_law_1816 (i := 12) rfl, rfl⟩
theorem dL_1838 : dc code 1838 1839 (.iconst 1) 1 := ⟨dr_at drL_law_1816 (i := 13) rfl, rfl⟩
theorem dL_1839 : dc code 1839 1840 .iadd 1 := ⟨dr_at drL_law_1816 (i := 14) rfl, rfl⟩
theorem dL_1840 : dc code 1840 1841 .iaload 1 := ⟨dr_at drL_law_1816 (i := 15) rfl, rfl⟩
theorem dL_1841 : dc code 1841 1842 (.aload_n 0) 1 := ⟨dr_at drL_law_1816 (i := 16) rfl, rfl⟩
theorem dL_1842 : dc code 1842 1844 (.iload 4) 2 := ⟨dr_at drL_law_1816 (i := 17) rfl, rfl⟩
theorem dL_1844 : dc code 1844 1845 (.iconst 2) 1 := ⟨dr_at drL_law_1816 (i := 18) rfl, rfl⟩
theorem dL_1845 : dc code 1845 1846 .iadd 1 := ⟨dr_at drL_law_1816 (i := 19) rfl, rfl⟩
theorem dL_1846 : dc code 1846 1847 .iaload 1 := ⟨dr_at drL_law_1816 (i := 20) rfl, rfl⟩
theorem dL_1847 : dc code 1847 1848 (.aload_n 3) 1 := ⟨dr_at drL_law_1816 (i := 21) rfl, rfl⟩
theorem dL_1848 : dc code 1848 1851 (.invokestatic 230) 3 := ⟨dr_at drL_law_1816 (i := 22) rfl, rfl⟩
theorem dL_1851 : dc code 1851 1853 (.istore 5) 2 := ⟨dr_at drL_law_1816 (i := 23) rfl, rfl⟩
theorem dL_1853 : dc code 1853 1854 (.aload_n 2) 1 := ⟨dr_at drL_law_1816 (i := 24) rfl, rfl⟩
theorem dL_1854 : dc code 1854 1855 (.aload_n 0) 1 := ⟨dr_at drL_law_1816 (i := 25) rfl, rfl⟩
theorem dL_1855 : dc code 1855 1857 (.iload 4) 2 := ⟨dr_at drL_law_1816 (i := 26) rfl, rfl⟩
theorem dL_1857 : dc code 1857 1858 (.iconst 1) 1 := ⟨dr_at drL_law_1816 (i := 27) rfl, rfl⟩
theorem dL_1858 : dc code 1858 1859 .iadd 1 := ⟨dr_at drL_law_1816 (i := 28) rfl, rfl⟩
theorem dL_1859 : dc code 1859 1860 .iaload 1 := ⟨dr_at drL_law_1816 (i := 29) rfl, rfl⟩
theorem dL_1860 : dc code 1860 1861 (.aload_n 0) 1 := ⟨dr_at drL_law_1816 (i := 30) rfl, rfl⟩
theorem dL_1861 : dc code 1861 1863 (.iload 4) 2 := ⟨dr_at drL_law_1816 (i := 31) rfl, rfl⟩
theorem dL_1863 : dc code 1863 1864 (.iconst 2) 1 := ⟨dr_at drL_law_1816 (i := 32) rfl, rfl⟩
theorem dL_1864 : dc code 1864 1865 .iadd 1 := ⟨dr_at drL_law_1816 (i := 33) rfl, rfl⟩
theorem dL_1865 : dc code 1865 1866 .iaload 1 := ⟨dr_at drL_law_1816 (i := 34) rfl, rfl⟩
theorem dL_1866 : dc code 1866 1869 (.invokevirtual 232) 3 := ⟨dr_at drL_law_1816 (i := 35) rfl, rfl⟩
theorem dL_1869 : dc code 1869 1871 (.istore 6) 2 := ⟨dr_at drL_law_1816 (i := 36) rfl, rfl⟩
theorem dL_1871 : dc code 1871 1872 (.aload_n 2) 1 := ⟨dr_at drL_law_1816 (i := 37) rfl, rfl⟩
theorem dL_1872 : dc code 1872 1875 (.invokevirtual 150) 3 := ⟨dr_at drL_law_1816 (i := 38) rfl, rfl⟩
theorem dL_1875 : dc code 1875 1877 (.iload 5) 2 := ⟨dr_at drL_law_1816 (i := 39) rfl, rfl⟩
theorem dL_1877 : dc code 1877 1880 (.if_icmp .eq 5) 3 := ⟨dr_at drL_law_1816 (i := 40) rfl, rfl⟩
theorem dL_1880 : dc code 1880 1881 (.iconst 0) 1 := ⟨dr_at drL_law_1816 (i := 41) rfl, rfl⟩
theorem dL_1882 : dc code 1882 1884 (.iload 5) 2 := ⟨dr_at drL_law_1816 (i := 42) rfl, rfl⟩
theorem dL_1884 : dc code 1884 1887 (.ifCond .ne 15) 3 := ⟨dr_at drL_law_1816 (i := 43) rfl, rfl⟩
theorem drL_law_1887 : ([(1887, (.aload_n 3), 1), (1888, (.iconst 0), 1), (1889, .laload, 1), (1890, (.iload 6), 2), (1892, .i2l, 1), (1893, .lcmp, 1), (1894, (.ifCond .eq 5), 3), (1897, (.iconst 0), 1), (1899, (.goto 883), 3), (1902, (.aload_n 1), 1), (1903, (.aload_n 0), 1), (1904, (.iload 4), 2), (1906, (.iconst 1), 1), (1907, .iadd, 1), (1908, .iaload, 1), (1909, (.aload_n 3), 1), (1910, (.invokestatic 233), 3), (1913, (.istore 5), 2), (1915, (.aload_n 2), 1), (1916, (.aload_n 0), 1), (1917, (.iload 4), 2), (1919, (.iconst 1), 1), (1920, .iadd, 1), (1921, .iaload, 1), (1922, (.invokevirtual 236), 3), (1925, (.istore 6), 2), (1927, (.aload_n 2), 1), (1928, (.invokevirtual 150), 3), (1931, (.iload 5), 2), (1933, (.if_icmp .eq 5), 3), (1936, (.iconst 0), 1), (1938, (.iload 5), 2), (1940, (.ifCond .ne 15), 3), (1943, (.aload_n 3), 1), (1944, (.iconst 0), 1), (1945, .laload, 1), (1946, (.iload 6), 2), (1948, .i2l, 1), (1949, .lcmp, 1), (1950, (.ifCond .eq 5), 3), (1953, (.iconst 0), 1), (1955, (.goto 827), 3)] : List (Nat × Instr × Nat)).all (fun q => decide (decode code q.1 = .ok q.2)) = true := by decide +kernel
theorem dL_1887 : dc code 1887 1888 (.aload_n 3) 1 := ⟨dr_at drL_law_1887 (i := 0) rfl, rfl⟩
theorem dL_1888 : dc code 1888 1889 (.iconst 0) 1 := ⟨dr_at drL_law_1887 (i := 1) rfl, rfl⟩
theorem dL_1889 : dc code 1889 1890 .laload 1 := ⟨dr_at drL_law_1887 (i := 2) rfl, rfl⟩
theorem dL_1890 : dc code 1890 1892 (.iload 6) 2 := ⟨dr_at drL_law_1887 (i := 3) rfl, rfl⟩
theorem dL_1892 : dc code 1892 1893 .i2l 1 := ⟨dr_at drL_law_1887 (i := 4) rfl, rfl⟩
theorem dL_1893 : dc code 1893 1894 .lcmp 1 := ⟨dr_at drL_law_1887 (i := 5) rfl, rfl⟩
theorem dL_1894 : dc code 1894 1897 (.ifCond .eq 5) 3 := ⟨dr_at drL_law_1887 (i := 6) rfl, rfl⟩
theorem dL_1897 : dc code 1897 1898 (.iconst 0) 1 := ⟨dr_at drL_law_1887 (i := 7) rfl, rfl⟩
theorem dL_1899 : dc code 1899 1902 (.goto 883) 3 := ⟨dr_at drL_law_1887 (i := 8) rfl, rfl⟩
theorem dL_1902 : dc code 1902 1903 (.aload_n 1) 1 := ⟨dr_at drL_law_1887 (i := 9) rfl, rfl⟩
theorem dL_1903 : dc code 1903 1904 (.aload_n 0) 1 := ⟨dr_at drL_law_1887 (i := 10) rfl, rfl⟩
theorem dL_1904 : dc code 1904 1906 (.iload 4) 2 := ⟨dr_at drL_law_1887 (i := 11) rfl, rfl⟩
theorem dL_1906 : dc code 1906 1907 (.iconst 1) 1 := ⟨dr_at drL_law_1887 (i := 12) rfl, rfl⟩
theorem dL_1907 : dc code 1907 1908 .iadd 1 := ⟨dr_at drL_law_1887 (i := 13) rfl, rfl⟩
theorem dL_1908 : dc code 1908 1909 .iaload 1 := ⟨dr_at drL_law_1887 (i := 14) rfl, rfl⟩
theorem dL_1909 : dc code 1909 1910 (.aload_n 3) 1 := ⟨dr_at drL_law_1887 (i := 15) rfl, rfl⟩
theorem dL_1910 : dc code 1910 1913 (.invokestatic 233) 3 := ⟨dr_at drL_law_1887 (i := 16) rfl, rfl⟩
theorem dL_1913 : dc code 1913 1915 (.istore 5) 2 := ⟨dr_at drL_law_1887 (i := 17) rfl, rfl⟩
theorem dL_1915 : dc code 1915 1916 (.aload_n 2) 1 := ⟨dr_at drL_law_1887 (i := 18) rfl, rfl⟩
theorem dL_1916 : dc code 1916 1917 (.aload_n 0) 1 := ⟨dr_at drL_law_1887 (i := 19) rfl, rfl⟩
theorem dL_1917 : dc code 1917 1919 (.iload 4) 2 := ⟨dr_at drL_law_1887 (i := 20) rfl, rfl⟩
theorem dL_1919 : dc code 1919 1920 (.iconst 1) 1 := ⟨dr_at drL_law_1887 (i := 21) rfl, rfl⟩
theorem dL_1920 : dc code 1920 1921 .iadd 1 := ⟨dr_at drL_law_1887 (i := 22) rfl, rfl⟩
theorem dL_1921 : dc code 1921 1922 .iaload 1 := ⟨dr_at drL_law_1887 (i := 23) rfl, rfl⟩
theorem dL_1922 : dc code 1922 1925 (.invokevirtual 236) 3 := ⟨dr_at drL_law_1887 (i := 24) rfl, rfl⟩
theorem dL_1925 : dc code 1925 1927 (.istore 6) 2 := ⟨dr_at drL_law_1887 (i := 25) rfl, rfl⟩
theorem dL_1927 : dc code 1927 1928 (.aload_n 2) 1 := ⟨dr_at drL_law_1887 (i := 26) rfl, rfl⟩
theorem dL_1928 : dc code 1928 1931 (.invokevirtual 150) 3 := ⟨dr_at drL_law_1887 (i := 27) rfl, rfl⟩
theorem dL_1931 : dc code 1931 1933 (.iload 5) 2 := ⟨dr_at drL_law_1887 (i := 28) rfl, rfl⟩
theorem dL_1933 : dc code 1933 1936 (.if_icmp .eq 5) 3 := ⟨dr_at drL_law_1887 (i := 29) rfl, rfl⟩
theorem dL_1936 : dc code 1936 1937 (.iconst 0) 1 := ⟨dr_at drL_law_1887 (i := 30) rfl, rfl⟩
theorem dL_1938 : dc code 1938 1940 (.iload 5) 2 := ⟨dr_at drL_law_1887 (i := 31) rfl, rfl⟩
theorem dL_1940 : dc code 1940 1943 (.ifCond .ne 15) 3 := ⟨dr_at drL_law_1887 (i := 32) rfl, rfl⟩
theorem dL_1943 : dc code 1943 1944 (.aload_n 3) 1 := ⟨dr_at drL_law_1887 (i := 33) rfl, rfl⟩
theorem dL_1944 : dc code 1944 1945 (.iconst 0) 1 := ⟨dr_at drL_law_1887 (i := 34) rfl, rfl⟩
theorem dL_1945 : dc code 1945 1946 .laload 1 := ⟨dr_at drL_law_1887 (i := 35) rfl, rfl⟩
theorem dL_1946 : dc code 1946 1948 (.iload 6) 2 := ⟨dr_at drL_law_1887 (i := 36) rfl, rfl⟩
theorem dL_1948 : dc code 1948 1949 .i2l 1 := ⟨dr_at drL_law_1887 (i := 37) rfl, rfl⟩
theorem dL_1949 : dc code 1949 1950 .lcmp 1 := ⟨dr_at drL_law_1887 (i := 38) rfl, rfl⟩
theorem dL_1950 : dc code 1950 1953 (.ifCond .eq 5) 3 := ⟨dr_at drL_law_1887 (i := 39) rfl, rfl⟩
theorem dL_1953 : dc code 1953 1954 (.iconst 0) 1 := ⟨dr_at drL_law_1887 (i := 40) rfl, rfl⟩
theorem dL_1955 : dc code 1955 1958 (.goto 827) 3 := ⟨dr_at drL_law_1887 (i := 41) rfl, rfl⟩
theorem drL_law_1958 : ([(1958, (.aload_n 1), 1), (1959, (.aload_n 0), 1), (1960, (.iload 4), 2), (1962, (.iconst 1), 1), (1963, .iadd, 1), (1964, .iaload, 1), (1965, (.aload_n 0), 1), (1966, (.iload 4), 2), (1968, (.iconst 2), 1), (1969, .iadd, 1), (1970, .iaload, 1), (1971, (.aload_n 0), 1), (1972, (.iload 4), 2), (1974, (.iconst 3), 1), (1975, .iadd, 1), (1976, .iaload, 1), (1977, (.aload_n 0), 1), (1978, (.iload 4), 2), (1980, (.iconst 4), 1), (1981, .iadd, 1), (1982, .iaload, 1), (1983, (.aload_n 0), 1), (1984, (.iload 4), 2), (1986, (.iconst 5), 1), (1987, .iadd, 1), (1988, .iaload, 1), (1989, (.aload_n 3), 1), (1990, (.invokestatic 237), 3), (1993, (.istore 5), 2), (1995, (.aload_n 2), 1), (1996, (.aload_n 0), 1), (1997, (.iload 4), 2), (1999, (.iconst 1), 1), (2000, .iadd, 1), (2001, .iaload, 1), (2002, (.aload_n 0), 1), (2003, (.iload 4), 2), (2005, (.iconst 2), 1), (2006, .iadd, 1), (2007, .iaload, 1)] : List (Nat × Instr × Nat)).all (fun q => decide (decode code q.1 = .ok q.2)) = true := by decide +kernel
theorem dL_1958 : dc code 1958 1959 (.aload_n 1) 1 := ⟨dr_at drL_law_1958 (i := 0) rfl, rfl⟩
theorem dL_1959 : dc code 1959 1960 (.aload_n 0) 1 := ⟨dr_at drL_law_1958 (i := 1) rfl, rfl⟩
theorem dL_1960 : dc code 1960 1962 (.iload 4) 2 := ⟨dr_at drL_law_1958 (i := 2) rfl, rfl⟩
theorem dL_1962 : dc code 1962 1963 (.iconst 1) 1 := ⟨dr_at drL_law_1958 (i := 3) rfl, rfl⟩
theorem dL_1963 : dc code 1963 1964 .iadd 1 := ⟨dr_at drL_law_1958 (i := 4) rfl, rfl⟩
theorem dL_1964 : dc code 1964 1965 .iaload 1 := ⟨dr_at drL_law_1958 (i := 5) rfl, rfl⟩
theorem dL_1965 : dc code 1965 1966 (.aload_n 0) 1 := ⟨dr_at drL_law_1958 (i := 6) rfl, rfl⟩
theorem dL_1966 : dc code 1966 1968 (.iload 4) 2 := ⟨dr_at drL_law_1958 (i := 7) rfl, rfl⟩
theorem dL_1968 : dc code 1968 1969 (.iconst 2) 1 := ⟨dr_at drL_law_1958 (i := 8) rfl, rfl⟩
theorem dL_1969 : dc code 1969 1970 .iadd 1 := ⟨dr_at drL_law_1958 (i := 9) rfl, rfl⟩
theorem dL_1970 : dc code 1970 1971 .iaload 1 := ⟨dr_at drL_law_1958 (i := 10) rfl, rfl⟩
theorem dL_1971 : dc code 1971 1972 (.aload_n 0) 1 := ⟨dr_at drL_law_1958 (i := 11) rfl, rfl⟩
theorem dL_1972 : dc code 1972 1974 (.iload 4) 2 := ⟨dr_at drL_law_1958 (i := 12) rfl, rfl⟩
theorem dL_1974 : dc code 1974 1975 (.iconst 3) 1 := ⟨dr_at drL_law_1958 (i := 13) rfl, rfl⟩
theorem dL_1975 : dc code 1975 1976 .iadd 1 := ⟨dr_at drL_law_1958 (i := 14) rfl, rfl⟩
theorem dL_1976 : dc code 1976 1977 .iaload 1 := ⟨dr_at drL_law_1958 (i := 15) rfl, rfl⟩
theorem dL_1977 : dc code 1977 1978 (.aload_n 0) 1 := ⟨dr_at drL_law_1958 (i := 16) rfl, rfl⟩
theorem dL_1978 : dc code 1978 1980 (.iload 4) 2 := ⟨dr_at drL_law_1958 (i := 17) rfl, rfl⟩
theorem dL_1980 : dc code 1980 1981 (.iconst 4) 1 := ⟨dr_at drL_law_1958 (i := 18) rfl, rfl⟩
theorem dL_1981 : dc code 1981 1982 .iadd 1 := ⟨dr_at drL_law_1958 (i := 19) rfl, rfl⟩
theorem dL_1982 : dc code 1982 1983 .iaload 1 := ⟨dr_at drL_law_1958 (i := 20) rfl, rfl⟩
theorem dL_1983 : dc code 1983 1984 (.aload_n 0) 1 := ⟨dr_at drL_law_1958 (i := 21) rfl, rfl⟩
theorem dL_1984 : dc code 1984 1986 (.iload 4) 2 := ⟨dr_at drL_law_1958 (i := 22) rfl, rfl⟩
theorem dL_1986 : dc code 1986 1987 (.iconst 5) 1 := ⟨dr_at drL_law_1958 (i := 23) rfl, rfl⟩
theorem dL_1987 : dc code 1987 1988 .iadd 1 := ⟨dr_at drL_law_1958 (i := 24) rfl, rfl⟩
theorem dL_1988 : dc code 1988 1989 .iaload 1 := ⟨dr_at drL_law_1958 (i := 25) rfl, rfl⟩
theorem dL_1989 : dc code 1989 1990 (.aload_n 3) 1 := ⟨dr_at drL_law_1958 (i := 26) rfl, rfl⟩
theorem dL_1990 : dc code 1990 1993 (.invokestatic 237) 3 := ⟨dr_at drL_law_1958 (i := 27) rfl, rfl⟩
theorem dL_1993 : dc code 1993 1995 (.istore 5) 2 := ⟨dr_at drL_law_1958 (i := 28) rfl, rfl⟩
theorem dL_1995 : dc code 1995 1996 (.aload_n 2) 1 := ⟨dr_at drL_law_1958 (i := 29) rfl, rfl⟩
theorem dL_1996 : dc code 1996 1997 (.aload_n 0) 1 := ⟨dr_at drL_law_1958 (i := 30) rfl, rfl⟩
theorem dL_1997 : dc code 1997 1999 (.iload 4) 2 := ⟨dr_at drL_law_1958 (i := 31) rfl, rfl⟩
theorem dL_1999 : dc code 1999 2000 (.iconst 1) 1 := ⟨dr_at drL_law_1958 (i := 32) rfl, rfl⟩
theorem dL_2000 : dc code 2000 2001 .iadd 1 := ⟨dr_at drL_law_1958 (i := 33) rfl, rfl⟩
theorem dL_2001 : dc code 2001 2002 .iaload 1 := ⟨dr_at drL_law_1958 (i := 34) rfl, rfl⟩
theorem dL_2002 : dc code 2002 2003 (.aload_n 0) 1 := ⟨dr_at drL_law_1958 (i := 35) rfl, rfl⟩
theorem dL_2003 : dc code 2003 2005 (.iload 4) 2 := ⟨dr_at drL_law_1958 (i := 36) rfl, rfl⟩
theorem dL_2005 : dc code 2005 2006 (.iconst 2) 1 := ⟨dr_at drL_law_1958 (i := 37) rfl, rfl⟩
theorem dL_2006 : dc code 2006 2007 .iadd 1 := ⟨dr_at drL_law_1958 (i := 38) rfl, rfl⟩
theorem dL_2007 : dc code 2007 2008 .iaload 1 := ⟨dr_at drL_law_1958 (i := 39) rfl, rfl⟩
theorem drL_law_2008 : ([(2008, (.aload_n 0), 1), (2009, (.iload 4), 2), (2011, (.iconst 3), 1), (2012, .iadd, 1), (2013, .iaload, 1), (2014, (.aload_n 0), 1), (2015, (.iload 4), 2), (2017, (.iconst 4), 1), (2018, .iadd, 1), (2019, .iaload, 1), (2020, (.aload_n 0), 1), (2021, (.iload 4), 2), (2023, (.iconst 5), 1), (2024, .iadd, 1), (2025, .iaload, 1), (2026, (.invokevirtual 240), 3), (2029, (.istore 6), 2), (2031, (.aload_n 2), 1), (2032, (.invokevirtual 150), 3), (2035, (.iload 5), 2), (2037, (.if_icmp .eq 5), 3), (2040, (.iconst 0), 1), (2042, (.iload 5), 2), (2044, (.ifCond .ne 15), 3), (2047, (.aload_n 3), 1), (2048, (.iconst 0), 1), (2049, .laload, 1), (2050, (.iload 6), 2), (2052, .i2l, 1), (2053, .lcmp, 1), (2054, (.ifCond .eq 5), 3), (2057, (.iconst 0), 1), (2059, (.goto 723), 3), (2062, (.aload_n 1), 1), (2063, (.aload_n 0), 1), (2064, (.iload 4), 2), (2066, (.iconst 1), 1), (2067, .iadd, 1), (2068, .iaload, 1)] : List (Nat × Instr × Nat)).all (fun q => decide (decode code q.1 = .ok q.2)) = true := by decide +kernel
theorem dL_2008 : dc code 2008 2009 (.aload_n 0) 1 := ⟨dr_at drL_law_2008 (i := 0) rfl, rfl⟩
theorem dL_2009 : dc code 2009 2011 (.iload 4) 2 := ⟨dr_at drL_law_2008 (i := 1) rfl, rfl⟩
theorem dL_2011 : dc code 2011 2012 (.iconst 3) 1 := ⟨dr_at drL_law_2008 (i := 2) rfl, rfl⟩
theorem dL_2012 : dc code 2012 2013 .iadd 1 := ⟨dr_at drL_law_2008 (i := 3) rfl, rfl⟩
theorem dL_2013 : dc code 2013 2014 .iaload 1 := ⟨dr_at drL_law_2008 (i := 4) rfl, rfl⟩
theorem dL_2014 : dc code 2014 2015 (.aload_n 0) 1 := ⟨dr_at drL_law_2008 (i := 5) rfl, rfl⟩
theorem dL_2015 : dc code 2015 2017 (.iload 4) 2 := ⟨dr_at drL_law_2008 (i := 6) rfl, rfl⟩
theorem dL_2017 : dc code 2017 2018 (.iconst 4) 1 := ⟨dr_at drL_law_2008 (i := 7) rfl, rfl⟩
theorem dL_2018 : dc code 2018 2019 .iadd 1 := ⟨dr_at drL_law_2008 (i := 8) rfl, rfl⟩
theorem dL_2019 : dc code 2019 2020 .iaload 1 := ⟨dr_at drL_law_2008 (i := 9) rfl, rfl⟩
theorem dL_2020 : dc code 2020 2021 (.aload_n 0) 1 := ⟨dr_at drL_law_2008 (i := 10) rfl, rfl⟩
theorem dL_2021 : dc code 2021 2023 (.iload 4) 2 := ⟨dr_at drL_law_2008 (i := 11) rfl, rfl⟩
theorem dL_2023 : dc code 2023 2024 (.iconst 5) 1 := ⟨dr_at drL_law_2008 (i := 12) rfl, rfl⟩
theorem dL_2024 : dc code 2024 2025 .iadd 1 := ⟨dr_at drL_law_2008 (i := 13) rfl, rfl⟩
theorem dL_2025 : dc code 2025 2026 .iaload 1 := ⟨dr_at drL_law_2008 (i := 14) rfl, rfl⟩
theorem dL_2026 : dc code 2026 2029 (.invokevirtual 240) 3 := ⟨dr_at drL_law_2008 (i := 15) rfl, rfl⟩
theorem dL_2029 : dc code 2029 2031 (.istore 6) 2 := ⟨dr_at drL_law_2008 (i := 16) rfl, rfl⟩
theorem dL_2031 : dc code 2031 2032 (.aload_n 2) 1 := ⟨dr_at drL_law_2008 (i := 17) rfl, rfl⟩
theorem dL_2032 : dc code 2032 2035 (.invokevirtual 150) 3 := ⟨dr_at drL_law_2008 (i := 18) rfl, rfl⟩
theorem dL_2035 : dc code 2035 2037 (.iload 5) 2 := ⟨dr_at drL_law_2008 (i := 19) rfl, rfl⟩
theorem dL_2037 : dc code 2037 2040 (.if_icmp .eq 5) 3 := ⟨dr_at drL_law_2008 (i := 20) rfl, rfl⟩
theorem dL_2040 : dc code 2040 2041 (.iconst 0) 1 := ⟨dr_at drL_law_2008 (i := 21) rfl, rfl⟩
theorem dL_2042 : dc code 2042 2044 (.iload 5) 2 := ⟨dr_at drL_law_2008 (i := 22) rfl, rfl⟩
theorem dL_2044 : dc code 2044 2047 (.ifCond .ne 15) 3 := ⟨dr_at drL_law_2008 (i := 23) rfl, rfl⟩
theorem dL_2047 : dc code 2047 2048 (.aload_n 3) 1 := ⟨dr_at drL_law_2008 (i := 24) rfl, rfl⟩
theorem dL_2048 : dc code 2048 2049 (.iconst 0) 1 := ⟨dr_at drL_law_2008 (i := 25) rfl, rfl⟩
theorem dL_2049 : dc code 2049 2050 .laload 1 := ⟨dr_at drL_law_2008 (i := 26) rfl, rfl⟩
theorem dL_2050 : dc code 2050 2052 (.iload 6) 2 := ⟨dr_at drL_law_2008 (i := 27) rfl, rfl⟩
theorem dL_2052 : dc code 2052 2053 .i2l 1 := ⟨dr_at drL_law_2008 (i := 28) rfl, rfl⟩
theorem dL_2053 : dc code 2053 2054 .lcmp 1 := ⟨dr_at drL_law_2008 (i := 29) rfl, rfl⟩
theorem dL_2054 : dc code 2054 2057 (.ifCond .eq 5) 3 := ⟨dr_at drL_law_2008 (i := 30) rfl, rfl⟩
theorem dL_2057 : dc code 2057 2058 (.iconst 0) 1 := ⟨dr_at drL_law_2008 (i := 31) rfl, rfl⟩
theorem dL_2059 : dc code 2059 2062 (.goto 723) 3 := ⟨dr_at drL_law_2008 (i := 32) rfl, rfl⟩
theorem dL_2062 : dc code 2062 2063 (.aload_n 1) 1 := ⟨dr_at drL_law_2008 (i := 33) rfl, rfl⟩
theorem dL_2063 : dc code 2063 2064 (.aload_n 0) 1 := ⟨dr_at drL_law_2008 (i := 34) rfl, rfl⟩
theorem dL_2064 : dc code 2064 2066 (.iload 4) 2 := ⟨dr_at drL_law_2008 (i := 35) rfl, rfl⟩
theorem dL_2066 : dc code 2066 2067 (.iconst 1) 1 := ⟨dr_at drL_law_2008 (i := 36) rfl, rfl⟩
theorem dL_2067 : dc code 2067 2068 .iadd 1 := ⟨dr_at drL_law_2008 (i := 37) rfl, rfl⟩
theorem dL_2068 : dc code 2068 2069 .iaload 1 := ⟨dr_at drL_law_2008 (i := 38) rfl, rfl⟩
theorem drL_law_2069 : ([(2069, (.aload_n 0), 1), (2070, (.iload 4), 2), (2072, (.iconst 2), 1), (2073, .iadd, 1), (2074, .iaload, 1), (2075, (.invokestatic 241), 3), (2078, (.istore 5), 2), (2080, (.aload_n 2), 1), (2081, (.aload_n 0), 1), (2082, (.iload 4), 2), (2084, (.iconst 1), 1), (2085, .iadd, 1), (2086, .iaload, 1), (2087, (.aload_n 0), 1), (2088, (.iload 4), 2), (2090, (.iconst 2), 1), (2091, .iadd, 1), (2092, .iaload, 1), (2093, (.invokevirtual 243), 3), (2096, (.aload_n 2), 1), (2097, (.invokevirtual 150), 3), (2100, (.iload 5), 2), (2102, (.if_icmp .eq 5), 3), (2105, (.iconst 0), 1), (2107, (.goto 675), 3), (2110, (.aload_n 1), 1), (2111, (.aload_n 0), 1), (2112, (.iload 4), 2), (2114, (.iconst 1), 1), (2115, .iadd, 1), (2116, .iaload, 1), (2117, (.invokestatic 244), 3), (2120, (.istore 5), 2), (2122, (.aload_n 2), 1), (2123, (.aload_n 0), 1), (2124, (.iload 4), 2), (2126, (.iconst 1), 1), (2127, .iadd, 1)] : List (Nat × Instr × Nat)).all (fun q => decide (decode code q.1 = .ok q.2)) = true := by decide +kernel
theorem dL_2069 : dc code 2069 2070 (.aload_n 0) 1 := ⟨dr_at drL_law_2069 (i := 0) rfl, rfl⟩
theorem dL_2070 : dc code 2070 2072 (.iload 4) 2 := ⟨dr_at drL_law_2069 (i := 1) rfl, rfl⟩
theorem dL_2072 : dc code 2072 2073 (.iconst 2) 1 := ⟨dr_at drL_law_2069 (i := 2) rfl, rfl⟩
theorem dL_2073 : dc code 2073 2074 .iadd 1 := ⟨dr_at drL_law_2069 (i := 3) rfl, rfl⟩
theorem dL_2074 : dc code 2074 2075 .iaload 1 := ⟨dr_at drL_law_2069 (i := 4) rfl, rfl⟩
theorem dL_2075 : dc code 2075 2078 (.invokestatic 241) 3 := ⟨dr_at drL_law_2069 (i := 5) rfl, rfl⟩
theorem dL_2078 : dc code 2078 2080 (.istore 5) 2 := ⟨dr_at drL_law_2069 (i := 6) rfl, rfl⟩
theorem dL_2080 : dc code 2080 2081 (.aload_n 2) 1 := ⟨dr_at drL_law_2069 (i := 7) rfl, rfl⟩
theorem dL_2081 : dc code 2081 2082 (.aload_n 0) 1 := ⟨dr_at drL_law_2069 (i := 8) rfl, rfl⟩
theorem dL_2082 : dc code 2082 2084 (.iload 4) 2 := ⟨dr_at drL_law_2069 (i := 9) rfl, rfl⟩
theorem dL_2084 : dc code 2084 2085 (.iconst 1) 1 := ⟨dr_at drL_law_2069 (i := 10) rfl, rfl⟩
theorem dL_2085 : dc code 2085 2086 .iadd 1 := ⟨dr_at drL_law_2069 (i := 11) rfl, rfl⟩
theorem dL_2086 : dc code 2086 2087 .iaload 1 := ⟨dr_at drL_law_2069 (i := 12) rfl, rfl⟩
theorem dL_2087 : dc code 2087 2088 (.aload_n 0) 1 := ⟨dr_at drL_law_2069 (i := 13) rfl, rfl⟩
theorem dL_2088 : dc code 2088 2090 (.iload 4) 2 := ⟨dr_at drL_law_2069 (i := 14) rfl, rfl⟩
theorem dL_2090 : dc code 2090 2091 (.iconst 2) 1 := ⟨dr_at drL_law_2069 (i := 15) rfl, rfl⟩
theorem dL_2091 : dc code 2091 2092 .iadd 1 := ⟨dr_at drL_law_2069 (i := 16) rfl, rfl⟩
theorem dL_2092 : dc code 2092 2093 .iaload 1 := ⟨dr_at drL_law_2069 (i := 17) rfl, rfl⟩
theorem dL_2093 : dc code 2093 2096 (.invokevirtual 243) 3 := ⟨dr_at drL_law_2069 (i := 18) rfl, rfl⟩
theorem dL_2096 : dc code 2096 2097 (.aload_n 2) 1 := ⟨dr_at drL_law_2069 (i := 19) rfl, rfl⟩
theorem dL_2097 : dc code 2097 2100 (.invokevirtual 150) 3 := ⟨dr_at drL_law_2069 (i := 20) rfl, rfl⟩
theorem dL_2100 : dc code 2100 2102 (.iload 5) 2 := ⟨dr_at drL_law_2069 (i := 21) rfl, rfl⟩
theorem dL_2102 : dc code 2102 2105 (.if_icmp .eq 5) 3 := ⟨dr_at drL_law_2069 (i := 22) rfl, rfl⟩
theorem dL_2105 : dc code 2105 2106 (.iconst 0) 1 := ⟨dr_at drL_law_2069 (i := 23) rfl, rfl⟩
theorem dL_2107 : dc code 2107 2110 (.goto 675) 3 := ⟨dr_at drL_law_2069 (i := 24) rfl, rfl⟩
theorem dL_2110 : dc code 2110 2111 (.aload_n 1) 1 := ⟨dr_at drL_law_2069 (i := 25) rfl, rfl⟩
theorem dL_2111 : dc code 2111 2112 (.aload_n 0) 1 := ⟨dr_at drL_law_2069 (i := 26) rfl, rfl⟩
theorem dL_2112 : dc code 2112 2114 (.iload 4) 2 := ⟨dr_at drL_law_2069 (i := 27) rfl, rfl⟩
theorem dL_2114 : dc code 2114 2115 (.iconst 1) 1 := ⟨dr_at drL_law_2069 (i := 28) rfl, rfl⟩
theorem dL_2115 : dc code 2115 2116 .iadd 1 := ⟨dr_at drL_law_2069 (i := 29) rfl, rfl⟩
theorem dL_2116 : dc code 2116 2117 .iaload 1 := ⟨dr_at drL_law_2069 (i := 30) rfl, rfl⟩
theorem dL_2117 : dc code 2117 2120 (.invokestatic 244) 3 := ⟨dr_at drL_law_2069 (i := 31) rfl, rfl⟩
theorem dL_2120 : dc code 2120 2122 (.istore 5) 2 := ⟨dr_at drL_law_2069 (i := 32) rfl, rfl⟩
theorem dL_2122 : dc code 2122 2123 (.aload_n 2) 1 := ⟨dr_at drL_law_2069 (i := 33) rfl, rfl⟩
theorem dL_2123 : dc code 2123 2124 (.aload_n 0) 1 := ⟨dr_at drL_law_2069 (i := 34) rfl, rfl⟩
theorem dL_2124 : dc code 2124 2126 (.iload 4) 2 := ⟨dr_at drL_law_2069 (i := 35) rfl, rfl⟩
theorem dL_2126 : dc code 2126 2127 (.iconst 1) 1 := ⟨dr_at drL_law_2069 (i := 36) rfl, rfl⟩
theorem dL_2127 : dc code 2127 2128 .iadd 1 := ⟨dr_at drL_law_2069 (i := 37) rfl, rfl⟩
