theorem drL_law_1564 : ([(1564, (.invokevirtual 150), 3), (1567, (.iload 5), 2), (1569, (.if_icmp .eq 5), 3), (1572, (.iconst 0), 1), (1574, (.iload 5), 2), (1576, (.ifCond .ne 15), 3), (1579, (.aload_n 3), 1), (1580, (.iconst 0), 1), (1581, .laload, 1), (1582, (.iload 6), 2), (1584, .i2l, 1), (1585, .lcmp, 1), (1586, (.ifCond .eq 5), 3), (1589, (.iconst 0), 1), (1591, (.goto 1191), 3), (1594, (.aload_n 1), 1), (1595, (.invokevirtual 216), 3), (1598, (.aload_n 2), 1), (1599, (.invokevirtual 219), 3), (1602, (.if_icmp .eq 1180), 3), (1605, (.iconst 0), 1), (1607, (.aload_n 1), 1), (1608, (.aload_n 0), 1), (1609, (.iload 4), 2), (1611, (.iconst 1), 1), (1612, .iadd, 1), (1613, .iaload, 1), (1614, (.aload_n 0), 1), (1615, (.iload 4), 2), (1617, (.iconst 2), 1), (1618, .iadd, 1), (1619, .iaload, 1), (1620, (.invokestatic 220), 3), (1623, (.istore 5), 2), (1625, (.aload_n 2), 1), (1626, (.aload_n 0), 1), (1627, (.iload 4), 2), (1629, (.iconst 1), 1), (1630, .iadd, 1), (1631, .iaload, 1), (1632, (.aload_n 0), 1), (1633, (.iload 4), 2), (1635, (.iconst 2), 1), (1636, .iadd, 1), (1637, .iaload, 1), (1638, (.invokevirtual 222), 3), (1641, (.aload_n 2), 1), (1642, (.invokevirtual 150), 3), (1645, (.iload 5), 2), (1647, (.if_icmp .eq 5), 3), (1650, (.iconst 0), 1), (1652, (.goto 1130), 3), (1655, (.aload_n 1), 1), (1656, (.aload_n 0), 1), (1657, (.iload 4), 2), (1659, (.iconst 1), 1), (1660, .iadd, 1), (1661, .iaload, 1), (1662, (.aload_n 0), 1), (1663, (.iload 4), 2), (1665, (.iconst 2), 1), (1666, .iadd, 1), (1667, .iaload, 1), (1668, (.aload_n 0), 1), (1669, (.iload 4), 2), (1671, (.iconst 3), 1), (1672, .iadd, 1), (1673, .iaload, 1), (1674, (.aload_n 0), 1), (1675, (.iload 4), 2), (1677, (.iconst 4), 1), (1678, .iadd, 1), (1679, .iaload, 1), (1680, (.ifCond .eq 7), 3), (1683, (.iconst 1), 1), (1684, (.goto 4), 3), (1687, (.iconst 0), 1), (1688, (.aload_n 0), 1), (1689, (.iload 4), 2), (1691, (.iconst 5), 1), (1692, .iadd, 1), (1693, .iaload, 1), (1694, (.ifCond .eq 7), 3), (1697, (.iconst 1), 1), (1698, (.goto 4), 3), (1701, (.iconst 0), 1), (1702, (.aload_n 3), 1), (1703, (.invokestatic 223), 3), (1706, (.istore 5), 2), (1708, (.aload_n 2), 1), (1709, (.aload_n 0), 1), (1710, (.iload 4), 2), (1712, (.iconst 1), 1), (1713, .iadd, 1), (1714, .iaload, 1), (1715, (.aload_n 0), 1), (1716, (.iload 4), 2), (1718, (.iconst 2), 1), (1719, .iadd, 1), (1720, .iaload, 1), (1721, (.aload_n 0), 1), (1722, (.iload 4), 2), (1724, (.iconst 3), 1), (1725, .iadd, 1), (1726, .iaload, 1), (1727, (.aload_n 0), 1), (1728, (.iload 4), 2), (1730, (.iconst 4), 1), (1731, .iadd, 1), (1732, .iaload, 1), (1733, (.ifCond .eq 7), 3), (1736, (.iconst 1), 1), (1737, (.goto 4), 3), (1740, (.iconst 0), 1), (1741, (.aload_n 0), 1), (1742, (.iload 4), 2), (1744, (.iconst 5), 1), (1745, .iadd, 1), (1746, .iaload, 1), (1747, (.ifCond .eq 7), 3), (1750, (.iconst 1), 1), (1751, (.goto 4), 3), (1754, (.iconst 0), 1), (1755, (.invokevirtual 226), 3), (1758, (.lstore 6), 2), (1760, (.aload_n 2), 1), (1761, (.invokevirtual 150), 3), (1764, (.iload 5), 2), (1766, (.if_icmp .eq 5), 3), (1769, (.iconst 0), 1), (1771, (.iload 5), 2), (1773, (.ifCond .ne 14), 3), (1776, (.aload_n 3), 1), (1777, (.iconst 0), 1), (1778, .laload, 1), (1779, (.lload 6), 2), (1781, .lcmp, 1), (1782, (.ifCond .eq 5), 3), (1785, (.iconst 0), 1), (1787, (.goto 995), 3), (1790, (.aload_n 1), 1), (1791, (.aload_n 3), 1), (1792, (.invokestatic 227), 3), (1795, (.istore 5), 2), (1797, (.aload_n 2), 1), (1798, (.invokevirtual 229), 3), (1801, (.istore 6), 2), (1803, (.aload_n 2), 1), (1804, (.invokevirtual 150), 3), (1807, (.iload 5), 2)] : List (Nat × Instr × Nat)).all (fun q => decide (decode code q.1 = .ok q.2)) = true := by decide +kernel
theorem dL_1564 : dc code 1564 1567 (.invokevirtual 150) 3 := ⟨dr_at drL_law_1564 (i := 0) rfl, rfl⟩
theorem dL_1567 : dc code 1567 1569 (.iload 5) 2 := ⟨dr_at drL_law_1564 (i := 1) rfl, rfl⟩
theorem dL_1569 : dc code 1569 1572 (.if_icmp .eq 5) 3 := ⟨dr_at drL_law_1564 (i := 2) rfl, rfl⟩
theorem dL_1572 : dc code 1572 1573 (.iconst 0) 1 := ⟨dr_at drL_law_1564 (i := 3) rfl, rfl⟩
theorem dL_1574 : dc code 1574 1576 (.iload 5) 2 := ⟨dr_at drL_law_1564 (i := 4) rfl, rfl⟩
theorem dL_1576 : dc code 1576 1579 (.ifCond .ne 15) 3 := ⟨dr_at drL_law_1564 (i := 5) rfl, rfl⟩
theorem dL_1579 : dc code 1579 1580 (.aload_n 3) 1 := ⟨dr_at drL_law_1564 (i := 6) rfl, rfl⟩
theorem dL_1580 : dc code 1580 1581 (.iconst 0) 1 := ⟨dr_at drL_law_1564 (i := 7) rfl, rfl⟩
theorem dL_1581 : dc code 1581 1582 .laload 1 := ⟨dr_at drL_law_1564 (i := 8) rfl, rfl⟩
theorem dL_1582 : dc code 1582 1584 (.iload 6) 2 := ⟨dr_at drL_law_1564 (i := 9) rfl, rfl⟩
theorem dL_1584 : dc code 1584 1585 .i2l 1 := ⟨dr_at drL_law_1564 (i := 10) rfl, rfl⟩
theorem dL_1585 : dc code 1585 1586 .lcmp 1 := ⟨dr_at drL_law_1564 (i := 11) rfl, rfl⟩
theorem dL_1586 : dc code 1586 1589 (.ifCond .eq 5) 3 := ⟨dr_at drL_law_1564 (i := 12) rfl, rfl⟩
theorem dL_1589 : dc code 1589 1590 (.iconst 0) 1 := ⟨dr_at drL_law_1564 (i := 13) rfl, rfl⟩
theorem dL_1591 : dc code 1591 1594 (.goto 1191) 3 := ⟨dr_at drL_law_1564 (i := 14) rfl, rfl⟩
theorem dL_1594 : dc code 1594 1595 (.aload_n 1) 1 := ⟨dr_at drL_law_1564 (i := 15) rfl, rfl⟩
theorem dL_1595 : dc code 1595 1598 (.invokevirtual 216) 3 := ⟨dr_at drL_law_1564 (i := 16) rfl, rfl⟩
theorem dL_1598 : dc code 1598 1599 (.aload_n 2) 1 := ⟨dr_at drL_law_1564 (i := 17) rfl, rfl⟩
theorem dL_1599 : dc code 1599 1602 (.invokevirtual 219) 3 := ⟨dr_at drL_law_1564 (i := 18) rfl, rfl⟩
theorem dL_1602 : dc code 1602 1605 (.if_icmp .eq 1180) 3 := ⟨dr_at drL_law_1564 (i := 19) rfl, rfl⟩
theorem dL_1605 : dc code 1605 1606 (.iconst 0) 1 := ⟨dr_at drL_law_1564 (i := 20) rfl, rfl⟩
theorem dL_1607 : dc code 1607 1608 (.aload_n 1) 1 := ⟨dr_at drL_law_1564 (i := 21) rfl, rfl⟩
theorem dL_1608 : dc code 1608 1609 (.aload_n 0) 1 := ⟨dr_at drL_law_1564 (i := 22) rfl, rfl⟩
theorem dL_1609 : dc code 1609 1611 (.iload 4) 2 := ⟨dr_at drL_law_1564 (i := 23) rfl, rfl⟩
theorem dL_1611 : dc code 1611 1612 (.iconst 1) 1 := ⟨dr_at drL_law_1564 (i := 24) rfl, rfl⟩
theorem dL_1612 : dc code 1612 1613 .iadd 1 := ⟨dr_at drL_law_1564 (i := 25) rfl, rfl⟩
theorem dL_1613 : dc code 1613 1614 .iaload 1 := ⟨dr_at drL_law_1564 (i := 26) rfl, rfl⟩
theorem dL_1614 : dc code 1614 1615 (.aload_n 0) 1 := ⟨dr_at drL_law_1564 (i := 27) rfl, rfl⟩
theorem dL_1615 : dc code 1615 1617 (.iload 4) 2 := ⟨dr_at drL_law_1564 (i := 28) rfl, rfl⟩
theorem dL_1617 : dc code 1617 1618 (.iconst 2) 1 := ⟨dr_at drL_law_1564 (i := 29) rfl, rfl⟩
theorem dL_1618 : dc code 1618 1619 .iadd 1 := ⟨dr_at drL_law_1564 (i := 30) rfl, rfl⟩
theorem dL_1619 : dc code 1619 1620 .iaload 1 := ⟨dr_at drL_law_1564 (i := 31) rfl, rfl⟩
theorem dL_1620 : dc code 1620 1623 (.invokestatic 220) 3 := ⟨dr_at drL_law_1564 (i := 32) rfl, rfl⟩
theorem dL_1623 : dc code 1623 1625 (.istore 5) 2 := ⟨dr_at drL_law_1564 (i := 33) rfl, rfl⟩
theorem dL_1625 : dc code 1625 1626 (.aload_n 2) 1 := ⟨dr_at drL_law_1564 (i := 34) rfl, rfl⟩
theorem dL_1626 : dc code 1626 1627 (.aload_n 0) 1 := ⟨dr_at drL_law_1564 (i := 35) rfl, rfl⟩
theorem dL_1627 : dc code 1627 1629 (.iload 4) 2 := ⟨dr_at drL_law_1564 (i := 36) rfl, rfl⟩
theorem dL_1629 : dc code 1629 1630 (.iconst 1) 1 := ⟨dr_at drL_law_1564 (i := 37) rfl, rfl⟩
theorem dL_1630 : dc code 1630 1631 .iadd 1 := ⟨dr_at drL_law_1564 (i := 38) rfl, rfl⟩
theorem dL_1631 : dc code 1631 1632 .iaload 1 := ⟨dr_at drL_law_1564 (i := 39) rfl, rfl⟩
theorem dL_1632 : dc code 1632 1633 (.aload_n 0) 1 := ⟨dr_at drL_law_1564 (i := 40) rfl, rfl⟩
theorem dL_1633 : dc code 1633 1635 (.iload 4) 2 := ⟨dr_at drL_law_1564 (i := 41) rfl, rfl⟩
theorem dL_1635 : dc code 1635 1636 (.iconst 2) 1 := ⟨dr_at drL_law_1564 (i := 42) rfl, rfl⟩
theorem dL_1636 : dc code 1636 1637 .iadd 1 := ⟨dr_at drL_law_1564 (i := 43) rfl, rfl⟩
theorem dL_1637 : dc code 1637 1638 .iaload 1 := ⟨dr_at drL_law_1564 (i := 44) rfl, rfl⟩
theorem dL_1638 : dc code 1638 1641 (.invokevirtual 222) 3 := ⟨dr_at drL_law_1564 (i := 45) rfl, rfl⟩
theorem dL_1641 : dc code 1641 1642 (.aload_n 2) 1 := ⟨dr_at drL_law_1564 (i := 46) rfl, rfl⟩
theorem dL_1642 : dc code 1642 1645 (.invokevirtual 150) 3 := ⟨dr_at drL_law_1564 (i := 47) rfl, rfl⟩
theorem dL_1645 : dc code 1645 1647 (.iload 5) 2 := ⟨dr_at drL_law_1564 (i := 48) rfl, rfl⟩
theorem dL_1647 : dc code 1647 1650 (.if_icmp .eq 5) 3 := ⟨dr_at drL_law_1564 (i := 49) rfl, rfl⟩
theorem dL_1650 : dc code 1650 1651 (.iconst 0) 1 := ⟨dr_at drL_law_1564 (i := 50) rfl, rfl⟩
theorem dL_1652 : dc code 1652 1655 (.goto 1130) 3 := ⟨dr_at drL_law_1564 (i := 51) rfl, rfl⟩
theorem dL_1655 : dc code 1655 1656 (.aload_n 1) 1 := ⟨dr_at drL_law_1564 (i := 52) rfl, rfl⟩
theorem dL_1656 : dc code 1656 1657 (.aload_n 0) 1 := ⟨dr_at drL_law_1564 (i := 53) rfl, rfl⟩
theorem dL_1657 : dc code 1657 1659 (.iload 4) 2 := ⟨dr_at drL_law_1564 (i := 54) rfl, rfl⟩
theorem dL_1659 : dc code 1659 1660 (.iconst 1) 1 := ⟨dr_at drL_law_1564 (i := 55) rfl, rfl⟩
theorem dL_1660 : dc code 1660 1661 .iadd 1 := ⟨dr_at drL_law_1564 (i := 56) rfl, rfl⟩
theorem dL_1661 : dc code 1661 1662 .iaload 1 := ⟨dr_at drL_law_1564 (i := 57) rfl, rfl⟩
theorem dL_1662 : dc code 1662 1663 (.aload_n 0) 1 := ⟨dr_at drL_law_1564 (i := 58) rfl, rfl⟩
theorem dL_1663 : dc code 1663 1665 (.iload 4) 2 := ⟨dr_at drL_law_1564 (i := 59) rfl, rfl⟩
theorem dL_1665 : dc code 1665 1666 (.iconst 2) 1 := ⟨dr_at drL_law_1564 (i := 60) rfl, rfl⟩
theorem dL_1666 : dc code 1666 1667 .iadd 1 := ⟨dr_at drL_law_1564 (i := 61) rfl, rfl⟩
theorem dL_1667 : dc code 1667 1668 .iaload 1 := ⟨dr_at drL_law_1564 (i := 62) rfl, rfl⟩
theorem dL_1668 : dc code 1668 1669 (.aload_n 0) 1 := ⟨dr_at drL_law_1564 (i := 63) rfl, rfl⟩
theorem dL_1669 : dc code 1669 1671 (.iload 4) 2 := ⟨dr_at drL_law_1564 (i := 64) rfl, rfl⟩
theorem dL_1671 : dc code 1671 1672 (.iconst 3) 1 := ⟨dr_at drL_law_1564 (i := 65) rfl, rfl⟩
theorem dL_1672 : dc code 1672 1673 .iadd 1 := ⟨dr_at drL_law_1564 (i := 66) rfl, rfl⟩
theorem dL_1673 : dc code 1673 1674 .iaload 1 := ⟨dr_at drL_law_1564 (i := 67) rfl, rfl⟩
theorem dL_1674 : dc code 1674 1675 (.aload_n 0) 1 := ⟨dr_at drL_law_1564 (i := 68) rfl, rfl⟩
theorem dL_1675 : dc code 1675 1677 (.iload 4) 2 := ⟨dr_at drL_law_1564 (i := 69) rfl, rfl⟩
theorem dL_1677 : dc code 1677 1678 (.iconst 4) 1 := ⟨dr_at drL_law_1564 (i := 70) rfl, rfl⟩
theorem dL_1678 : dc code 1678 1679 .iadd 1 := ⟨dr_at drL_law_1564 (i := 71) rfl, rfl⟩
theorem dL_1679 : dc code 1679 1680 .iaload 1 := ⟨dr_at drL_law_1564 (i := 72) rfl, rfl⟩
theorem dL_1680 : dc code 1680 1683 (.ifCond .eq 7) 3 := ⟨dr_at drL_law_1564 (i := 73) rfl, rfl⟩
theorem dL_1683 : dc code 1683 1684 (.iconst 1) 1 := ⟨dr_at drL_law_1564 (i := 74) rfl, rfl⟩
theorem dL_1684 : dc code 1684 1687 (.goto 4) 3 := ⟨dr_at drL_law_1564 (i := 75) rfl, rfl⟩
theorem dL_1687 : dc code 1687 1688 (.iconst 0) 1 := ⟨dr_at drL_law_1564 (i := 76) rfl, rfl⟩
theorem dL_1688 : dc code 1688 1689 (.aload_n 0) 1 := ⟨dr_at drL_law_1564 (i := 77) rfl, rfl⟩
theorem dL_1689 : dc code 1689 1691 (.iload 4) 2 := ⟨dr_at drL_law_1564 (i := 78) rfl, rfl⟩
theorem dL_1691 : dc code 1691 1692 (.iconst 5) 1 := ⟨dr_at drL_law_1564 (i := 79) rfl, rfl⟩
theorem dL_1692 : dc code 1692 1693 .iadd 1 := ⟨dr_at drL_law_1564 (i := 80) rfl, rfl⟩
theorem dL_1693 : dc code 1693 1694 .iaload 1 := ⟨dr_at drL_law_1564 (i := 81) rfl, rfl⟩
theorem dL_1694 : dc code 1694 1697 (.ifCond .eq 7) 3 := ⟨dr_at drL_law_1564 (i := 82) rfl, rfl⟩
theorem dL_1697 : dc code 1697 1698 (.iconst 1) 1 := ⟨dr_at drL_law_1564 (i := 83) rfl, rfl⟩
theorem dL_1698 : dc code 1698 1701 (.goto 4) 3 := ⟨dr_at drL_law_1564 (i := 84) rfl, rfl⟩
theorem dL_1701 : dc code 1701 1702 (.iconst 0) 1 := ⟨dr_at drL_law_1564 (i := 85) rfl, rfl⟩
theorem dL_1702 : dc code 1702 1703 (.aload_n 3) 1 := ⟨dr_at drL_law_1564 (i := 86) rfl, rfl⟩
theorem dL_1703 : dc code 1703 1706 (.invokestatic 223) 3 := ⟨dr_at drL_law_1564 (i := 87) rfl, rfl⟩
theorem dL_1706 : dc code 1706 1708 (.istore 5) 2 := ⟨dr_at drL_law_1564 (i := 88) rfl, rfl⟩
theorem dL_1708 : dc code 1708 1709 (.aload_n 2) 1 := ⟨dr_at drL_law_1564 (i := 89) rfl, rfl⟩
theorem dL_1709 : dc code 1709 1710 (.aload_n 0) 1 := ⟨dr_at drL_law_1564 (i := 90) rfl, rfl⟩
theorem dL_1710 : dc code 1710 1712 (.iload 4) 2 := ⟨dr_at drL_law_1564 (i := 91) rfl, rfl⟩
theorem dL_1712 : dc code 1712 1713 (.iconst 1) 1 := ⟨dr_at drL_law_1564 (i := 92) rfl, rfl⟩
theorem dL_1713 : dc code 1713 1714 .iadd 1 := ⟨dr_at drL_law_1564 (i := 93) rfl, rfl⟩
theorem dL_1714 : dc code 1714 1715 .iaload 1 := ⟨dr_at drL_law_1564 (i := 94) rfl, rfl⟩
theorem dL_1715 : dc code 1715 1716 (.aload_n 0) 1 := ⟨dr_at drL_law_1564 (i := 95) rfl, rfl⟩
theorem dL_1716 : dc code 1716 1718 (.iload 4) 2 := ⟨dr_at drL_law_1564 (i := 96) rfl, rfl⟩
theorem dL_1718 : dc code 1718 1719 (.iconst 2) 1 := ⟨dr_at drL_law_1564 (i := 97) rfl, rfl⟩
theorem dL_1719 : dc code 1719 1720 .iadd 1 := ⟨dr_at drL_law_1564 (i := 98) rfl, rfl⟩
theorem dL_1720 : dc code 1720 1721 .iaload 1 := ⟨dr_at drL_law_1564 (i := 99) rfl, rfl⟩
theorem dL_1721 : dc code 1721 1722 (.aload_n 0) 1 := ⟨dr_at drL_law_1564 (i := 100) rfl, rfl⟩
theorem dL_1722 : dc code 1722 1724 (.iload 4) 2 := ⟨dr_at drL_law_1564 (i := 101) rfl, rfl⟩
theorem dL_1724 : dc code 1724 1725 (.iconst 3) 1 := ⟨dr_at drL_law_1564 (i := 102) rfl, rfl⟩
theorem dL_1725 : dc code 1725 1726 .iadd 1 := ⟨dr_at drL_law_1564 (i := 103) rfl, rfl⟩
theorem dL_1726 : dc code 1726 1727 .iaload 1 := ⟨dr_at drL_law_1564 (i := 104) rfl, rfl⟩
theorem dL_1727 : dc code 1727 1728 (.aload_n 0) 1 := ⟨dr_at drL_law_1564 (i := 105) rfl, rfl⟩
theorem dL_1728 : dc code 1728 1730 (.iload 4) 2 := ⟨dr_at drL_law_1564 (i := 106) rfl, rfl⟩
theorem dL_1730 : dc code 1730 1731 (.iconst 4) 1 := ⟨dr_at drL_law_1564 (i := 107) rfl, rfl⟩
theorem dL_1731 : dc code 1731 1732 .iadd 1 := ⟨dr_at drL_law_1564 (i := 108) rfl, rfl⟩
theorem dL_1732 : dc code 1732 1733 .iaload 1 := ⟨dr_at drL_law_1564 (i := 109) rfl, rfl⟩
theorem dL_1733 : dc code 1733 1736 (.ifCond .eq 7) 3 := ⟨dr_at drL_law_1564 (i := 110) rfl, rfl⟩
theorem dL_1736 : dc code 1736 1737 (.iconst 1) 1 := ⟨dr_at drL_law_1564 (i := 111) rfl, rfl⟩
theorem dL_1737 : dc code 1737 1740 (.goto 4) 3 := ⟨dr_at drL_law_1564 (i := 112) rfl, rfl⟩
theorem dL_1740 : dc code 1740 1741 (.iconst 0) 1 := ⟨dr_at drL_law_1564 (i := 113) rfl, rfl⟩
theorem dL_1741 : dc code 1741 1742 (.aload_n 0) 1 := ⟨dr_at drL_law_1564 (i := 114) rfl, rfl⟩
theorem dL_1742 : dc code 1742 1744 (.iload 4) 2 := ⟨dr_at drL_law_1564 (i := 115) rfl, rfl⟩
theorem dL_1744 : dc code 1744 1745 (.iconst 5) 1 := ⟨dr_at drL_law_1564 (i := 116) rfl, rfl⟩
theorem dL_1745 : dc code 1745 1746 .iadd 1 := ⟨dr_at drL_law_1564 (i := 117) rfl, rfl⟩
theorem dL_1746 : dc code 1746 1747 .iaload 1 := ⟨dr_at drL_law_1564 (i := 118) rfl, rfl⟩
theorem dL_1747 : dc code 1747 1750 (.ifCond .eq 7) 3 := ⟨dr_at drL_law_1564 (i := 119) rfl, rfl⟩
theorem dL_1750 : dc code 1750 1751 (.iconst 1) 1 := ⟨dr_at drL_law_1564 (i := 120) rfl, rfl⟩
theorem dL_1751 : dc code 1751 1754 (.goto 4) 3 := ⟨dr_at drL_law_1564 (i := 121) rfl, rfl⟩
theorem dL_1754 : dc code 1754 1755 (.iconst 0) 1 := ⟨dr_at drL_law_1564 (i := 122) rfl, rfl⟩
theorem dL_1755 : dc code 1755 1758 (.invokevirtual 226) 3 := ⟨dr_at drL_law_1564 (i := 123) rfl, rfl⟩
theorem dL_1758 : dc code 1758 1760 (.lstore 6) 2 := ⟨dr_at drL_law_1564 (i := 124) rfl, rfl⟩
theorem dL_1760 : dc code 1760 1761 (.aload_n 2) 1 := ⟨dr_at drL_law_1564 (i := 125) rfl, rfl⟩
theorem dL_1761 : dc code 1761 1764 (.invokevirtual 150) 3 := ⟨dr_at drL_law_1564 (i := 126) rfl, rfl⟩
theorem dL_1764 : dc code 1764 1766 (.iload 5) 2 := ⟨dr_at drL_law_1564 (i := 127) rfl, rfl⟩
theorem dL_1766 : dc code 1766 1769 (.if_icmp .eq 5) 3 := ⟨dr_at drL_law_1564 (i := 128) rfl, rfl⟩
theorem dL_1769 : dc code 1769 1770 (.iconst 0) 1 := ⟨dr_at drL_law_1564 (i := 129) rfl, rfl⟩
theorem dL_1771 : dc code 1771 1773 (.iload 5) 2 := ⟨dr_at drL_law_1564 (i := 130) rfl, rfl⟩
theorem dL_1773 : dc code 1773 1776 (.ifCond .ne 14) 3 := ⟨dr_at drL_law_1564 (i := 131) rfl, rfl⟩
theorem dL_1776 : dc code 1776 1777 (.aload_n 3) 1 := ⟨dr_at drL_law_1564 (i := 132) rfl, rfl⟩
theorem dL_1777 : dc code 1777 1778 (.iconst 0) 1 := ⟨dr_at drL_law_1564 (i := 133) rfl, rfl⟩
theorem dL_1778 : dc code 1778 1779 .laload 1 := ⟨dr_at drL_law_1564 (i := 134) rfl, rfl⟩
theorem dL_1779 : dc code 1779 1781 (.lload 6) 2 := ⟨dr_at drL_law_1564 (i := 135) rfl, rfl⟩
theorem dL_1781 : dc code 1781 1782 .lcmp 1 := ⟨dr_at drL_law_1564 (i := 136) rfl, rfl⟩
theorem dL_1782 : dc code 1782 1785 (.ifCond .eq 5) 3 := ⟨dr_at drL_law_1564 (i := 137) rfl, rfl⟩
theorem dL_1785 : dc code 1785 1786 (.iconst 0) 1 := ⟨dr_at drL_law_1564 (i := 138) rfl, rfl⟩
theorem dL_1787 : dc code 1787 1790 (.goto 995) 3 := ⟨dr_at drL_law_1564 (i := 139) rfl, rfl⟩
theorem dL_1790 : dc code 1790 1791 (.aload_n 1) 1 := ⟨dr_at drL_law_1564 (i := 140) rfl, rfl⟩
theorem dL_1791 : dc code 1791 1792 (.aload_n 3) 1 := ⟨dr_at drL_law_1564 (i := 141) rfl, rfl⟩
theorem dL_1792 : dc code 1792 1795 (.invokestatic 227) 3 := ⟨dr_at drL_law_1564 (i := 142) rfl, rfl⟩
theorem dL_1795 : dc code 1795 1797 (.istore 5) 2 := ⟨dr_at drL_law_1564 (i := 143) rfl, rfl⟩
theorem dL_1797 : dc code 1797 1798 (.aload_n 2) 1 := ⟨dr_at drL_law_1564 (i := 144) rfl, rfl⟩
theorem dL_1798 : dc code 1798 1801 (.invokevirtual 229) 3 := ⟨dr_at drL_law_1564 (i := 145) rfl, rfl⟩
theorem dL_1801 : dc code 1801 1803 (.istore 6) 2 := ⟨dr_at drL_law_1564 (i := 146) rfl, rfl⟩
theorem dL_1803 : dc code 1803 1804 (.aload_n 2) 1 := ⟨dr_at drL_law_1564 (i := 147) rfl, rfl⟩
theorem dL_1804 : dc code 1804 1807 (.invokevirtual 150) 3 := ⟨dr_at drL_law_1564 (i := 148) rfl, rfl⟩
theorem dL_1807 : dc code 1807 1809 (.iload 5) 2 := ⟨dr_at drL_law_1564 (i := 149) rfl, rfl⟩
theorem drL_law_1809 : ([(1809, (.if_icmp .eq 5), 3), (1812, (.iconst 0), 1), (1814, (.iload 5), 2), (1816, (.ifCond .ne 15), 3), (1819, (.aload_n 3), 1), (1820, (.iconst 0), 1), (1821, .laload, 1), (1822, (.iload 6), 2), (1824, .i2l, 1), (1825, .lcmp, 1), (1826, (.ifCond .eq 5), 3), (1829, (.iconst 0), 1), (1831, (.goto 951), 3), (1834, (.aload_n 1), 1), (1835, (.aload_n 0), 1), (1836, (.iload 4), 2), (1838, (.iconst 1), 1), (1839, .iadd, 1), (1840, .iaload, 1), (1841, (.aload_n 0), 1), (1842, (.iload 4), 2), (1844, (.iconst 2), 1), (1845, .iadd, 1), (1846, .iaload, 1), (1847, (.aload_n 3), 1), (1848, (.invokestatic 230), 3), (1851, (.istore 5), 2), (1853, (.aload_n 2), 1), (1854, (.aload_n 0), 1), (1855, (.iload 4), 2), (1857, (.iconst 1), 1), (1858, .iadd, 1), (1859, .iaload, 1), (1860, (.aload_n 0), 1), (1861, (.iload 4), 2), (1863, (.iconst 2), 1), (1864, .iadd, 1), (1865, .iaload, 1), (1866, (.invokevirtual 232), 3), (1869, (.istore 6), 2), (1871, (.aload_n 2), 1), (1872, (.invokevirtual 150), 3), (1875, (.iload 5), 2), (1877, (.if_icmp .eq 5), 3), (1880, (.iconst 0), 1), (1882, (.iload 5), 2), (1884, (.ifCond .ne 15), 3), (1887, (.aload_n 3), 1), (1888, (.iconst 0), 1), (1889, .laload, 1), (1890, (.iload 6), 2), (1892, .i2l, 1), (1893, .lcmp, 1), (1894, (.ifCond .eq 5), 3), (1897, (.iconst 0), 1), (1899, (.goto 883), 3), (1902, (.aload_n 1), 1), (1903, (.aload_n 0), 1), (1904, (.iload 4), 2), (1906, (.iconst 1), 1), (1907, .iadd, 1), (1908, .iaload, 1), (1909, (.aload_n 3), 1), (1910, (.invokestatic 233), 3), (1913, (.istore 5), 2), (1915, (.aload_n 2), 1), (1916, (.aload_n 0), 1), (1917, (.iload 4), 2), (1919, (.iconst 1), 1), (1920, .iadd, 1), (1921, .iaload, 1), (1922, (.invokevirtual 236), 3), (1925, (.istore 6), 2), (1927, (.aload_n 2), 1), (1928, (.invokevirtual 150), 3), (1931, (.iload 5), 2), (1933, (.if_icmp .eq 5), 3), (1936, (.iconst 0), 1), (1938, (.iload 5), 2), (1940, (.ifCond .ne 15), 3), (1943, (.aload_n 3), 1), (1944, (.iconst 0), 1), (1945, .laload, 1), (1946, (.iload 6), 2), (1948, .i2l, 1), (1949, .lcmp, 1), (1950, (.ifCond .eq 5), 3), (1953, (.iconst 0), 1), (1955, (.goto 827), 3), (1958, (.aload_n 1), 1), (1959, (.aload_n 0), 1), (1960, (.iload 4), 2), (1962, (.iconst 1), 1), (1963, .iadd, 1), (1964, .iaload, 1), (1965, (.aload_n 0), 1), (1966, (.iload 4), 2), (1968, (.iconst 2), 1), (1969, .iadd, 1), (1970, .iaload, 1), (1971, (.aload_n 0), 1), (1972, (.iload 4), 2), (1974, (.iconst 3), 1), (1975, .iadd, 1), (1976, .iaload, 1), (1977, (.aload_n 0), 1), (1978, (.iload 4), 2), (1980, (.iconst 4), 1), (1981, .iadd, 1), (1982, .iaload, 1), (1983, (.aload_n 0), 1), (1984, (.iload 4), 2), (1986, (.iconst 5), 1), (1987, .iadd, 1), (1988, .iaload, 1), (1989, (.aload_n 3), 1), (1990, (.invokestatic 237), 3), (1993, (.istore 5), 2), (1995, (.aload_n 2), 1), (1996, (.aload_n 0), 1), (1997, (.iload 4), 2), (1999, (.iconst 1), 1), (2000, .iadd, 1), (2001, .iaload, 1), (2002, (.aload_n 0), 1), (2003, (.iload 4), 2), (2005, (.iconst 2), 1), (2006, .iadd, 1), (2007, .iaload, 1), (2008, (.aload_n 0), 1), (2009, (.iload 4), 2), (2011, (.iconst 3), 1), (2012, .iadd, 1), (2013, .iaload, 1), (2014, (.aload_n 0), 1), (2015, (.iload 4), 2), (2017, (.iconst 4), 1), (2018, .iadd, 1), (2019, .iaload, 1), (2020, (.aload_n 0), 1), (2021, (.iload 4), 2), (2023, (.iconst 5), 1), (2024, .iadd, 1), (2025, .iaload, 1), (2026, (.invokevirtual 240), 3), (2029, (.istore 6), 2), (2031, (.aload_n 2), 1), (2032, (.invokevirtual 150), 3), (2035, (.iload 5), 2), (2037, (.if_icmp .eq 5), 3)] : List (Nat × Instr × Nat)).all (fun q => decide (decode code q.1 = .ok q.2)) = true := by decide +kernel
theorem dL_1809 : dc code 1809 1812 (.if_icmp .eq 5) 3 := ⟨dr_at drL_law_1809 (i := 0) rfl, rfl⟩
theorem dL_1812 : dc code 1812 1813 (.iconst 0) 1 := ⟨dr_at drL_law_1809 (i := 1) rfl, rfl⟩
theorem dL_1814 : dc code 1814 1816 (.iload 5) 2 := ⟨dr_at drL_law_1809 (i := 2) rfl, rfl⟩
theorem dL_1816 : dc code 1816 1819 (.ifCond .ne 15) 3 := ⟨dr_at drL_law_1809 (i := 3) rfl, rfl⟩
theorem dL_1819 : dc code 1819 1820 (.aload_n 3) 1 := ⟨dr_at drL_law_1809 (i := 4) rfl, rfl⟩
theorem dL_1820 : dc code 1820 1821 (.iconst 0) 1 := ⟨dr_at drL_law_1809 (i := 5) rfl, rfl⟩
theorem dL_1821 : dc code 1821 1822 .laload 1 := ⟨dr_at drL_law_1809 (i := 6) rfl, rfl⟩
theorem dL_1822 : dc code 1822 1824 (.iload 6) 2 := ⟨dr_at drL_law_1809 (i := 7) rfl, rfl⟩
theorem dL_1824 : dc code 1824 1825 .i2l 1 := ⟨dr_at drL_law_1809 (i := 8) rfl, rfl⟩
theorem dL_1825 : dc code 1825 1826 .lcmp 1 := ⟨dr_at drL_law_1809 (i := 9) rfl, rfl⟩
theorem dL_1826 : dc code 1826 1829 (.ifCond .eq 5) 3 := ⟨dr_at drL_law_1809 (i := 10) rfl, rfl⟩
theorem dL_1829 : dc code 1829 1830 (.iconst 0) 1 := ⟨dr_at drL_law_1809 (i := 11) rfl, rfl⟩
theorem dL_1831 : dc code 1831 1834 (.goto 951) 3 := ⟨dr_at drL_law_1809 (i := 12) rfl, rfl⟩
theorem dL_1834 : dc code 1834 1835 (.aload_n 1) 1 := ⟨dr_at drL_law_1809 (i := 13) rfl, rfl⟩
theorem dL_1835 : dc code 1835 1836 (.aload_n 0) 1 := ⟨dr_at drL_law_1809 (i := 14) rfl, rfl⟩
theorem dL_1836 : dc code 1836 1838 (.iload 4) 2 := ⟨dr_at drL_law_1809 (i := 15) rfl, rfl⟩
theorem dL_1838 : dc code 1838 1839 (.iconst 1) 1 := ⟨dr_at drL_law_1809 (i := 16) rfl, rfl⟩
theorem dL_1839 : dc code 1839 1840 .iadd 1 := ⟨dr_at drL_law_1809 (i := 17) rfl, rfl⟩
theorem dL_1840 : dc code 1840 1841 .iaload 1 := ⟨dr_at drL_law_1809 (i := 18) rfl, rfl⟩
theorem dL_1841 : dc code 1841 1842 (.aload_n 0) 1 := ⟨dr_at drL_law_1809 (i := 19) rfl, rfl⟩
theorem dL_1842 : dc code 1842 1844 (.iload 4) 2 := ⟨dr_at drL_law_1809 (i := 20) rfl, rfl⟩
theorem dL_1844 : dc code 1844 1845 (.iconst 2) 1 := ⟨dr_at drL_law_1809 (i := 21) rfl, rfl⟩
theorem dL_1845 : dc code 1845 1846 .iadd 1 := ⟨dr_at drL_law_1809 (i := 22) rfl, rfl⟩
theorem dL_1846 : dc code 1846 1847 .iaload 1 := ⟨dr_at drL_law_1809 (i := 23) rfl, rfl⟩
theorem dL_1847 : dc code 1847 1848 (.aload_n 3) 1 := ⟨dr_at drL_law_1809 (i := 24) rfl, rfl⟩
theorem dL_1848 : dc code 1848 1851 (.invokestatic 230) 3 := ⟨dr_at drL_law_1809 (i := 25) rfl, rfl⟩
theorem dL_1851 : dc code 1851 1853 (.istore 5) 2 := ⟨dr_at drL_law_1809 (i := 26) rfl, rfl⟩
theorem dL_1853 : dc code 1853 1854 (.aload_n 2) 1 := ⟨dr_at drL_law_1809 (i := 27) rfl, rfl⟩
theorem dL_1854 : dc code 1854 1855 (.aload_n 0) 1 := ⟨dr_at drL_law_1809 (i := 28) rfl, rfl⟩
theorem dL_1855 : dc code 1855 1857 (.iload 4) 2 := ⟨dr_at drL_law_1809 (i := 29) rfl, rfl⟩
theorem dL_1857 : dc code 1857 1858 (.iconst 1) 1 := ⟨dr_at drL_law_1809 (i := 30) rfl, rfl⟩
theorem dL_1858 : dc code 1858 1859 .iadd 1 := ⟨dr_at drL_law_1809 (i := 31) rfl, rfl⟩
theorem dL_1859 : dc code 1859 1860 .iaload 1 := ⟨dr_at drL_law_1809 (i := 32) rfl, rfl⟩
theorem dL_1860 : dc code 1860 1861 (.aload_n 0) 1 := ⟨dr_at drL_law_1809 (i := 33) rfl, rfl⟩
theorem dL_1861 : dc code 1861 1863 (.iload 4) 2 := ⟨dr_at drL_law_1809 (i := 34) rfl, rfl⟩
theorem dL_1863 : dc code 1863 1864 (.iconst 2) 1 := ⟨dr_at drL_law_1809 (i := 35) rfl, rfl⟩
theorem dL_1864 : dc code 1864 1865 .iadd 1 := ⟨dr_at drL_law_1809 (i := 36) rfl, rfl⟩
theorem dL_1865 : dc code 1865 1866 .iaload 1 := ⟨dr_at drL_law_1809 (i := 37) rfl, rfl⟩
theorem dL_1866 : dc code 1866 1869 (.invokevirtual 232) 3 := ⟨dr_at drL_law_1809 (i := 38) rfl, rfl⟩
theorem dL_1869 : dc code 1869 1871 (.istore 6) 2 := ⟨dr_at drL_law_1809 (i := 39) rfl, rfl⟩
theorem dL_1871 : dc code 1871 1872 (.aload_n 2) 1 := ⟨dr_at drL_law_1809 (i := 40) rfl, rfl⟩
theorem dL_1872 : dc code 1872 1875 (.invokevirtual 150) 3 := ⟨dr_at drL_law_1809 (i := 41) rfl, rfl⟩
theorem dL_1875 : dc code 1875 1877 (.iload 5) 2 := ⟨dr_at drL_law_1809 (i := 42) rfl, rfl⟩
theorem dL_1877 : dc code 1877 1880 (.if_icmp .eq 5) 3 := ⟨dr_at drL_law_1809 (i := 43) rfl, rfl⟩
theorem dL_1880 : dc code 1880 1881 (.iconst 0) 1 := ⟨dr_at drL_law_1809 (i := 44) rfl, rfl⟩
theorem dL_1882 : dc code 1882 1884 (.iload 5) 2 := ⟨dr_at drL_law_1809 (i := 45) rfl, rfl⟩
theorem dL_1884 : dc code 1884 1887 (.ifCond .ne 15) 3 := ⟨dr_at drL_law_1809 (i := 46) rfl, rfl⟩
theorem dL_1887 : dc code 1887 1888 (.aload_n 3) 1 := ⟨dr_at drL_law_1809 (i := 47) rfl, rfl⟩
theorem dL_1888 : dc code 1888 1889 (.iconst 0) 1 := ⟨dr_at drL_law_1809 (i := 48) rfl, rfl⟩
theorem dL_1889 : dc code 1889 1890 .laload 1 := ⟨dr_at drL_law_1809 (i := 49) rfl, rfl⟩
theorem dL_1890 : dc code 1890 1892 (.iload 6) 2 := ⟨dr_at drL_law_1809 (i := 50) rfl, rfl⟩
theorem dL_1892 : dc code 1892 1893 .i2l 1 := ⟨dr_at drL_law_1809 (i := 51) rfl, rfl⟩
theorem dL_1893 : dc code 1893 1894 .lcmp 1 := ⟨dr_at drL_law_1809 (i := 52) rfl, rfl⟩
theorem dL_1894 : dc code 1894 1897 (.ifCond .eq 5) 3 := ⟨dr_at drL_law_1809 (i := 53) rfl, rfl⟩
theorem dL_1897 : dc code 1897 1898 (.iconst 0) 1 := ⟨dr_at drL_law_1809 (i := 54) rfl, rfl⟩
theorem dL_1899 : dc code 1899 1902 (.goto 883) 3 := ⟨dr_at drL_law_1809 (i := 55) rfl, rfl⟩
theorem dL_1902 : dc code 1902 1903 (.aload_n 1) 1 := ⟨dr_at drL_law_1809 (i := 56) rfl, rfl⟩
theorem dL_1903 : dc code 1903 1904 (.aload_n 0) 1 := ⟨dr_at drL_law_1809 (i := 57) rfl, rfl⟩
theorem dL_1904 : dc code 1904 1906 (.iload 4) 2 := ⟨dr_at drL_law_1809 (i := 58) rfl, rfl⟩
theorem dL_1906 : dc code 1906 1907 (.iconst 1) 1 := ⟨dr_at drL_law_1809 (i := 59) rfl, rfl⟩
theorem dL_1907 : dc code 1907 1908 .iadd 1 := ⟨dr_at drL_law_1809 (i := 60) rfl, rfl⟩
theorem dL_1908 : dc code 1908 1909 .iaload 1 := ⟨dr_at drL_law_1809 (i := 61) rfl, rfl⟩
theorem dL_1909 : dc code 1909 1910 (.aload_n 3) 1 := ⟨dr_at drL_law_1809 (i := 62) rfl, rfl⟩
theorem dL_1910 : dc code 1910 1913 (.invokestatic 233) 3 := ⟨dr_at drL_law_1809 (i := 63) rfl, rfl⟩
theorem dL_1913 : dc code 1913 1915 (.istore 5) 2 := ⟨dr_at drL_law_1809 (i := 64) rfl, rfl⟩
theorem dL_1915 : dc code 1915 1916 (.aload_n 2) 1 := ⟨dr_at drL_law_1809 (i := 65) rfl, rfl⟩
theorem dL_1916 : dc code 1916 1917 (.aload_n 0) 1 := ⟨dr_at drL_law_1809 (i := 66) rfl, rfl⟩
theorem dL_1917 : dc code 1917 1919 (.iload 4) 2 := ⟨dr_at drL_law_1809 (i := 67) rfl, rfl⟩
theorem dL_1919 : dc code 1919 1920 (.iconst 1) 1 := ⟨dr_at drL_law_1809 (i := 68) rfl, rfl⟩
theorem dL_1920 : dc code 1920 1921 .iadd 1 := ⟨dr_at drL_law_1809 (i := 69) rfl, rfl⟩
theorem dL_1921 : dc code 1921 1922 .iaload 1 := ⟨dr_at drL_law_1809 (i := 70) rfl, rfl⟩
theorem dL_1922 : dc code 1922 1925 (.invokevirtual 236) 3 := ⟨dr_at drL_law_1809 (i := 71) rfl, rfl⟩
theorem dL_1925 : dc code 1925 1927 (.istore 6) 2 := ⟨dr_at drL_law_1809 (i := 72) rfl, rfl⟩
theorem dL_1927 : dc code 1927 1928 (.aload_n 2) 1 := ⟨dr_at drL_law_1809 (i := 73) rfl, rfl⟩
theorem dL_1928 : dc code 1928 1931 (.invokevirtual 150) 3 := ⟨dr_at drL_law_1809 (i := 74) rfl, rfl⟩
theorem dL_1931 : dc code 1931 1933 (.iload 5) 2 := ⟨dr_at drL_law_1809 (i := 75) rfl, rfl⟩
theorem dL_1933 : dc code 1933 1936 (.if_icmp .eq 5) 3 := ⟨dr_at drL_law_1809 (i := 76) rfl, rfl⟩
theorem dL_1936 : dc code 1936 1937 (.iconst 0) 1 := ⟨dr_at drL_law_1809 (i := 77) rfl, rfl⟩
theorem dL_1938 : dc code 1938 1940 (.iload 5) 2 := ⟨dr_at drL_law_1809 (i := 78) rfl, rfl⟩
theorem dL_1940 : dc code 1940 1943 (.ifCond .ne 15) 3 := ⟨dr_at drL_law_1809 (i := 79) rfl, rfl⟩
theorem dL_1943 : dc code 1943 1944 (.aload_n 3) 1 := ⟨dr_at drL_law_1809 (i := 80) rfl, rfl⟩
theorem dL_1944 : dc code 1944 1945 (.iconst 0) 1 := ⟨dr_at drL_law_1809 (i := 81) rfl, rfl⟩
theorem dL_1945 : dc code 1945 1946 .laload 1 := ⟨dr_at drL_law_1809 (i := 82) rfl, rfl⟩
theorem dL_1946 : dc code 1946 1948 (.iload 6) 2 := ⟨dr_at drL_law_1809 (i := 83) rfl, rfl⟩
theorem dL_1948 : dc code 1948 1949 .i2l 1 := ⟨dr_at drL_law_1809 (i := 84) rfl, rfl⟩
theorem dL_1949 : dc code 1949 1950 .lcmp 1 := ⟨dr_at drL_law_1809 (i := 85) rfl, rfl⟩
theorem dL_1950 : dc code 1950 1953 (.ifCond .eq 5) 3 := ⟨dr_at drL_law_1809 (i := 86) rfl, rfl⟩
theorem dL_1953 : dc code 1953 1954 (.iconst 0) 1 := ⟨dr_at drL_law_1809 (i := 87) rfl, rfl⟩
theorem dL_1955 : dc code 1955 1958 (.goto 827) 3 := ⟨dr_at drL_law_1809 (i := 88) rfl, rfl⟩
theorem dL_1958 : dc code 1958 1959 (.aload_n 1) 1 := ⟨dr_at drL_law_1809 (i := 89) rfl, rfl⟩
theorem dL_1959 : dc code 1959 1960 (.aload_n 0) 1 := ⟨dr_at drL_law_1809 (i := 90) rfl, rfl⟩
theorem dL_1960 : dc code 1960 1962 (.iload 4) 2 := ⟨dr_at drL_law_1809 (i := 91) rfl, rfl⟩
theorem dL_1962 : dc code 1962 1963 (.iconst 1) 1 := ⟨dr_at drL_law_1809 (i := 92) rfl, rfl⟩
theorem dL_1963 : dc code 1963 1964 .iadd 1 := ⟨dr_at drL_law_1809 (i := 93) rfl, rfl⟩
theorem dL_1964 : dc code 1964 1965 .iaload 1 := ⟨dr_at drL_law_1809 (i := 94) rfl, rfl⟩
theorem dL_1965 : dc code 1965 1966 (.aload_n 0) 1 := ⟨dr_at drL_law_1809 (i := 95) rfl, rfl⟩
theorem dL_1966 : dc code 1966 1968 (.iload 4) 2 := ⟨dr_at drL_law_1809 (i := 96) rfl, rfl⟩
theorem dL_1968 : dc code 1968 1969 (.iconst 2) 1 := ⟨dr_at drL_law_1809 (i := 97) rfl, rfl⟩
theorem dL_1969 : dc code 1969 1970 .iadd 1 := ⟨dr_at drL_law_1809 (i := 98) rfl, rfl⟩
theorem dL_1970 : dc code 1970 1971 .iaload 1 := ⟨dr_at drL_law_1809 (i := 99) rfl, rfl⟩
theorem dL_1971 : dc code 1971 1972 (.aload_n 0) 1 := ⟨dr_at drL_law_1809 (i := 100) rfl, rfl⟩
theorem dL_1972 : dc code 1972 1974 (.iload 4) 2 := ⟨dr_at drL_law_1809 (i := 101) rfl, rfl⟩
theorem dL_1974 : dc code 1974 1975 (.iconst 3) 1 := ⟨dr_at drL_law_1809 (i := 102) rfl, rfl⟩
theorem dL_1975 : dc code 1975 1976 .iadd 1 := ⟨dr_at drL_law_1809 (i := 103) rfl, rfl⟩
theorem dL_1976 : dc code 1976 1977 .iaload 1 := ⟨dr_at drL_law_1809 (i := 104) rfl, rfl⟩
theorem dL_1977 : dc code 1977 1978 (.aload_n 0) 1 := ⟨dr_at drL_law_1809 (i := 105) rfl, rfl⟩
theorem dL_1978 : dc code 1978 1980 (.iload 4) 2 := ⟨dr_at drL_law_1809 (i := 106) rfl, rfl⟩
theorem dL_1980 : dc code 1980 1981 (.iconst 4) 1 := ⟨dr_at drL_law_1809 (i := 107) rfl, rfl⟩
theorem dL_1981 : dc code 1981 1982 .iadd 1 := ⟨dr_at drL_law_1809 (i := 108) rfl, rfl⟩
theorem dL_1982 : dc code 1982 1983 .iaload 1 := ⟨dr_at drL_law_1809 (i := 109) rfl, rfl⟩
theorem dL_1983 : dc code 1983 1984 (.aload_n 0) 1 := ⟨dr_at drL_law_1809 (i := 110) rfl, rfl⟩
theorem dL_1984 : dc code 1984 1986 (.iload 4) 2 := ⟨dr_at drL_law_1809 (i := 111) rfl, rfl⟩
theorem dL_1986 : dc code 1986 1987 (.iconst 5) 1 := ⟨dr_at drL_law_1809 (i := 112) rfl, rfl⟩
theorem dL_1987 : dc code 1987 1988 .iadd 1 := ⟨dr_at drL_law_1809 (i := 113) rfl, rfl⟩
theorem dL_1988 : dc code 1988 1989 .iaload 1 := ⟨dr_at drL_law_1809 (i := 114) rfl, rfl⟩
theorem dL_1989 : dc code 1989 1990 (.aload_n 3) 1 := ⟨dr_at drL_law_1809 (i := 115) rfl, rfl⟩
theorem dL_1990 : dc code 1990 1993 (.invokestatic 237) 3 := ⟨dr_at drL_law_1809 (i := 116) rfl, rfl⟩
theorem dL_1993 : dc code 1993 1995 (.istore 5) 2 := ⟨dr_at drL_law_1809 (i := 117) rfl, rfl⟩
theorem dL_1995 : dc code 1995 1996 (.aload_n 2) 1 := ⟨dr_at drL_law_1809 (i := 118) rfl, rfl⟩
theorem dL_1996 : dc code 1996 1997 (.aload_n 0) 1 := ⟨dr_at drL_law_1809 (i := 119) rfl, rfl⟩
theorem dL_1997 : dc code 1997 1999 (.iload 4) 2 := ⟨dr_at drL_law_1809 (i := 120) rfl, rfl⟩
theorem dL_1999 : dc code 1999 2000 (.iconst 1) 1 := ⟨dr_at drL_law_1809 (i := 121) rfl, rfl⟩
theorem dL_2000 : dc code 2000 2001 .iadd 1 := ⟨dr_at drL_law_1809 (i := 122) rfl, rfl⟩
theorem dL_2001 : dc code 2001 2002 .iaload 1 := ⟨dr_at drL_law_1809 (i := 123) rfl, rfl⟩
theorem dL_2002 : dc code 2002 2003 (.aload_n 0) 1 := ⟨dr_at drL_law_1809 (i := 124) rfl, rfl⟩
theorem dL_2003 : dc code 2003 2005 (.iload 4) 2 := ⟨dr_at drL_law_1809 (i := 125) rfl, rfl⟩
theorem dL_2005 : dc code 2005 2006 (.iconst 2) 1 := ⟨dr_at drL_law_1809 (i := 126) rfl, rfl⟩
theorem dL_2006 : dc code 2006 2007 .iadd 1 := ⟨dr_at drL_law_1809 (i := 127) rfl, rfl⟩
theorem dL_2007 : dc code 2007 2008 .iaload 1 := ⟨dr_at drL_law_1809 (i := 128) rfl, rfl⟩
theorem dL_2008 : dc code 2008 2009 (.aload_n 0) 1 := ⟨dr_at drL_law_1809 (i := 129) rfl, rfl⟩
theorem dL_2009 : dc code 2009 2011 (.iload 4) 2 := ⟨dr_at drL_law_1809 (i := 130) rfl, rfl⟩
theorem dL_2011 : dc code 2011 2012 (.iconst 3) 1 := ⟨dr_at drL_law_1809 (i := 131) rfl, rfl⟩
theorem dL_2012 : dc code 2012 2013 .iadd 1 := ⟨dr_at drL_law_1809 (i := 132) rfl, rfl⟩
theorem dL_2013 : dc code 2013 2014 .iaload 1 := ⟨dr_at drL_law_1809 (i := 133) rfl, rfl⟩
theorem dL_2014 : dc code 2014 2015 (.aload_n 0) 1 := ⟨dr_at drL_law_1809 (i := 134) rfl, rfl⟩
theorem dL_2015 : dc code 2015 2017 (.iload 4) 2 := ⟨dr_at drL_law_1809 (i := 135) rfl, rfl⟩
theorem dL_2017 : dc code 2017 2018 (.iconst 4) 1 := ⟨dr_at drL_law_1809 (i := 136) rfl, rfl⟩
theorem dL_2018 : dc code 2018 2019 .iadd 1 := ⟨dr_at drL_law_1809 (i := 137) rfl, rfl⟩
theorem dL_2019 : dc code 2019 2020 .iaload 1 := ⟨dr_at drL_law_1809 (i := 138) rfl, rfl⟩
theorem dL_2020 : dc code 2020 2021 (.aload_n 0) 1 := ⟨dr_at drL_law_1809 (i := 139) rfl, rfl⟩
theorem dL_2021 : dc code 2021 2023 (.iload 4) 2 := ⟨dr_at drL_law_1809 (i := 140) rfl, rfl⟩
theorem dL_2023 : dc code 2023 2024 (.iconst 5) 1 := ⟨dr_at drL_law_1809 (i := 141) rfl, rfl⟩
theorem dL_2024 : dc code 2024 2025 .iadd 1 := ⟨dr_at drL_law_1809 (i := 142) rfl, rfl⟩
theorem dL_2025 : dc code 2025 2026 .iaload 1 := ⟨dr_at drL_law_1809 (i := 143) rfl, rfl⟩
theorem dL_2026 : dc code 2026 2029 (.invokevirtual 240) 3 := ⟨dr_at drL_law_1809 (i := 144) rfl, rfl⟩
theorem dL_2029 : dc code 2029 2031 (.istore 6) 2 := ⟨dr_at drL_law_1809 (i := 145) rfl, rfl⟩
theorem dL_2031 : dc code 2031 2032 (.aload_n 2) 1 := ⟨dr_at drL_law_1809 (i := 146) rfl, rfl⟩
theorem dL_2032 : dc code 2032 2035 (.invokevirtual 150) 3 := ⟨dr_at drL_law_1809 (i := 147) rfl, rfl⟩
theorem dL_2035 : dc code 2035 2037 (.iload 5) 2 := ⟨dr_at drL_law_1809 (i := 148) rfl, rfl⟩
theorem dL_2037 : dc code 2037 2040 (.if_icmp .eq 5) 3 := ⟨dr_at drL_law_1809 (i := 149) rfl, rfl⟩
theorem drL_law_2040 : ([(2040, (.iconst 0), 1), (2042, (.iload 5), 2), (2044, (.ifCond .ne 15), 3), (2047, (.aload_n 3), 1), (2048, (.iconst 0), 1), (2049, .laload, 1), (2050, (.iload 6), 2), (2052, .i2l, 1), (2053, .lcmp, 1), (2054, (.ifCond .eq 5), 3), (2057, (.iconst 0), 1), (2059, (.goto 723), 3), (2062, (.aload_n 1), 1), (2063, (.aload_n 0), 1), (2064, (.iload 4), 2), (2066, (.iconst 1), 1), (2067, .iadd, 1), (2068, .iaload, 1), (2069, (.aload_n 0), 1), (2070, (.iload 4), 2), (2072, (.iconst 2), 1), (2073, .iadd, 1), (2074, .iaload, 1), (2075, (.invokestatic 241), 3), (2078, (.istore 5), 2), (2080, (.aload_n 2), 1), (2081, (.aload_n 0), 1), (2082, (.iload 4), 2), (2084, (.iconst 1), 1), (2085, .iadd, 1), (2086, .iaload, 1), (2087, (.aload_n 0), 1), (2088, (.iload 4), 2), (2090, (.iconst 2), 1), (2091, .iadd, 1), (2092, .iaload, 1), (2093, (.invokevirtual 243), 3), (2096, (.aload_n 2), 1), (2097, (.invokevirtual 150), 3), (2100, (.iload 5), 2), (2102, (.if_icmp .eq 5), 3), (2105, (.iconst 0), 1), (2107, (.goto 675), 3), (2110, (.aload_n 1), 1), (2111, (.aload_n 0), 1), (2112, (.iload 4), 2), (2114, (.iconst 1), 1), (2115, .iadd, 1), (2116, .iaload, 1), (2117, (.invokestatic 244), 3), (2120, (.istore 5), 2), (2122, (.aload_n 2), 1), (2123, (.aload_n 0), 1), (2124, (.iload 4), 2), (2126, (.iconst 1), 1), (2127, .iadd, 1), (2128, .iaload, 1), (2129, (.invokevirtual 246), 3), (2132, (.aload_n 2), 1), (2133, (.invokevirtual 150), 3), (2136, (.iload 5), 2), (2138, (.if_icmp .eq 5), 3), (2141, (.iconst 0), 1), (2143, (.goto 639), 3), (2146, (.aload_n 1), 1), (2147, (.aload_n 0), 1), (2148, (.iload 4), 2), (2150, (.iconst 1), 1), (2151, .iadd, 1), (2152, .iaload, 1), (2153, (.aload_n 0), 1), (2154, (.iload 4), 2), (2156, (.iconst 2), 1), (2157, .iadd, 1), (2158, .iaload, 1), (2159, (.aload_n 3), 1), (2160, (.invokestatic 247), 3), (2163, (.istore 5), 2), (2165, (.aload_n 2), 1), (2166, (.aload_n 0), 1), (2167, (.iload 4), 2), (2169, (.iconst 1), 1), (2170, .iadd, 1), (2171, .iaload, 1), (2172, (.aload_n 0), 1), (2173, (.iload 4), 2), (2175, (.iconst 2), 1), (2176, .iadd, 1), (2177, .iaload, 1), (2178, (.invokevirtual 249), 3), (2181, (.istore 6), 2), (2183, (.aload_n 2), 1), (2184, (.invokevirtual 150), 3), (2187, (.iload 5), 2), (2189, (.if_icmp .eq 5), 3), (2192, (.iconst 0), 1), (2194, (.iload 5), 2), (2196, (.ifCond .ne 15), 3), (2199, (.aload_n 3), 1), (2200, (.iconst 0), 1), (2201, .laload, 1), (2202, (.iload 6), 2), (2204, .i2l, 1), (2205, .lcmp, 1), (2206, (.ifCond .eq 5), 3), (2209, (.iconst 0), 1), (2211, (.goto 571), 3), (2214, (.aload_n 1), 1), (2215, (.aload_n 0), 1), (2216, (.iload 4), 2), (2218, (.iconst 1), 1), (2219, .iadd, 1), (2220, .iaload, 1), (2221, (.aload_n 3), 1), (2222, (.invokestatic 250), 3), (2225, (.istore 5), 2), (2227, (.aload_n 2), 1), (2228, (.aload_n 0), 1), (2229, (.iload 4), 2), (2231, (.iconst 1), 1), (2232, .iadd, 1), (2233, .iaload, 1), (2234, (.invokevirtual 252), 3), (2237, (.istore 6), 2), (2239, (.aload_n 2), 1), (2240, (.invokevirtual 150), 3), (2243, (.iload 5), 2), (2245, (.if_icmp .eq 5), 3), (2248, (.iconst 0), 1), (2250, (.iload 5), 2), (2252, (.ifCond .ne 15), 3), (2255, (.aload_n 3), 1), (2256, (.iconst 0), 1), (2257, .laload, 1), (2258, (.iload 6), 2), (2260, .i2l, 1), (2261, .lcmp, 1), (2262, (.ifCond .eq 5), 3), (2265, (.iconst 0), 1), (2267, (.goto 515), 3), (2270, (.aload_n 1), 1), (2271, (.aload_n 0), 1), (2272, (.iload 4), 2), (2274, (.iconst 1), 1), (2275, .iadd, 1), (2276, .iaload, 1), (2277, (.aload_n 3), 1), (2278, (.invokestatic 253), 3), (2281, (.istore 5), 2), (2283, (.aload_n 2), 1)] : List (Nat × Instr × Nat)).all (fun q => decide (decode code q.1 = .ok q.2)) = true := by decide +kernel
theorem dL_2040 : dc code 2040 2041 (.iconst 0) 1 := ⟨dr_at drL_law_2040 (i := 0) rfl, rfl⟩
theorem dL_2042 : dc code 2042 2044 (.iload 5) 2 := ⟨dr_at drL_law_2040 (i := 1) rfl, rfl⟩
theorem dL_2044 : dc code 2044 2047 (.ifCond .ne 15) 3 := ⟨dr_at drL_law_2040 (i := 2) rfl, rfl⟩
theorem dL_2047 : dc code 2047 2048 (.aload_n 3) 1 := ⟨dr_at drL_law_2040 (i := 3) rfl, rfl⟩
theorem dL_2048 : dc code 2048 2049 (.iconst 0) 1 := ⟨dr_at drL_law_2040 (i := 4) rfl, rfl⟩
theorem dL_2049 : dc code 2049 2050 .laload 1 := ⟨dr_at drL_law_2040 (i := 5) rfl, rfl⟩
theorem dL_2050 : dc code 2050 2052 (.iload 6) 2 := ⟨dr_at drL_law_2040 (i := 6) rfl, rfl⟩
theorem dL_2052 : dc code 2052 2053 .i2l 1 := ⟨dr_at drL_law_2040 (i := 7) rfl, rfl⟩
theorem dL_2053 : dc code 2053 2054 .lcmp 1 := ⟨dr_at drL_law_2040 (i := 8) rfl, rfl⟩
theorem dL_2054 : dc code 2054 2057 (.ifCond .eq 5) 3 := ⟨dr_at drL_law_2040 (i := 9) rfl, rfl⟩
theorem dL_2057 : dc code 2057 2058 (.iconst 0) 1 := ⟨dr_at drL_law_2040 (i := 10) rfl, rfl⟩
theorem dL_2059 : dc code 2059 2062 (.goto 723) 3 := ⟨dr_at drL_law_2040 (i := 11) rfl, rfl⟩
theorem dL_2062 : dc code 2062 2063 (.aload_n 1) 1 := ⟨dr_at drL_law_2040 (i := 12) rfl, rfl⟩
theorem dL_2063 : dc code 2063 2064 (.aload_n 0) 1 := ⟨dr_at drL_law_2040 (i := 13) rfl, rfl⟩
theorem dL_2064 : dc code 2064 2066 (.iload 4) 2 := ⟨dr_at drL_law_2040 (i := 14) rfl, rfl⟩
theorem dL_2066 : dc code 2066 2067 (.iconst 1) 1 := ⟨dr_at drL_law_2040 (i := 15) rfl, rfl⟩
theorem dL_2067 : dc code 2067 2068 .iadd 1 := ⟨dr_at drL_law_2040 (i := 16) rfl, rfl⟩
theorem dL_2068 : dc code 2068 2069 .iaload 1 := ⟨dr_at drL_law_2040 (i := 17) rfl, rfl⟩
theorem dL_2069 : dc code 2069 2070 (.aload_n 0) 1 := ⟨dr_at drL_law_2040 (i := 18) rfl, rfl⟩
theorem dL_2070 : dc code 2070 2072 (.iload 4) 2 := ⟨dr_at drL_law_2040 (i := 19) rfl, rfl⟩
theorem dL_2072 : dc code 2072 2073 (.iconst 2) 1 := ⟨dr_at drL_law_2040 (i := 20) rfl, rfl⟩
theorem dL_2073 : dc code 2073 2074 .iadd 1 := ⟨dr_at drL_law_2040 (i := 21) rfl, rfl⟩
theorem dL_2074 : dc code 2074 2075 .iaload 1 := ⟨dr_at drL_law_2040 (i := 22) rfl, rfl⟩
theorem dL_2075 : dc code 2075 2078 (.invokestatic 241) 3 := ⟨dr_at drL_law_2040 (i := 23) rfl, rfl⟩
theorem dL_2078 : dc code 2078 2080 (.istore 5) 2 := ⟨dr_at drL_law_2040 (i := 24) rfl, rfl⟩
theorem dL_2080 : dc code 2080 2081 (.aload_n 2) 1 := ⟨dr_at drL_law_2040 (i := 25) rfl, rfl⟩
theorem dL_2081 : dc code 2081 2082 (.aload_n 0) 1 := ⟨dr_at drL_law_2040 (i := 26) rfl, rfl⟩
theorem dL_2082 : dc code 2082 2084 (.iload 4) 2 := ⟨dr_at drL_law_2040 (i := 27) rfl, rfl⟩
theorem dL_2084 : dc code 2084 2085 (.iconst 1) 1 := ⟨dr_at drL_law_2040 (i := 28) rfl, rfl⟩
theorem dL_2085 : dc code 2085 2086 .iadd 1 := ⟨dr_at drL_law_2040 (i := 29) rfl, rfl⟩
theorem dL_2086 : dc code 2086 2087 .iaload 1 := ⟨dr_at drL_law_2040 (i := 30) rfl, rfl⟩
theorem dL_2087 : dc code 2087 2088 (.aload_n 0) 1 := ⟨dr_at drL_law_2040 (i := 31) rfl, rfl⟩
theorem dL_2088 : dc code 2088 2090 (.iload 4) 2 := ⟨dr_at drL_law_2040 (i := 32) rfl, rfl⟩
theorem dL_2090 : dc code 2090 2091 (.iconst 2) 1 := ⟨dr_at drL_law_2040 (i := 33) rfl, rfl⟩
theorem dL_2091 : dc code 2091 2092 .iadd 1 := ⟨dr_at drL_law_2040 (i := 34) rfl, rfl⟩
theorem dL_2092 : dc code 2092 2093 .iaload 1 := ⟨dr_at drL_law_2040 (i := 35) rfl, rfl⟩
theorem dL_2093 : dc code 2093 2096 (.invokevirtual 243) 3 := ⟨dr_at drL_law_2040 (i := 36) rfl, rfl⟩
theorem dL_2096 : dc code 2096 2097 (.aload_n 2) 1 := ⟨dr_at drL_law_2040 (i := 37) rfl, rfl⟩
theorem dL_2097 : dc code 2097 2100 (.invokevirtual 150) 3 := ⟨dr_at drL_law_2040 (i := 38) rfl, rfl⟩
theorem dL_2100 : dc code 2100 2102 (.iload 5) 2 := ⟨dr_at drL_law_2040 (i := 39) rfl, rfl⟩
theorem dL_2102 : dc code 2102 2105 (.if_icmp .eq 5) 3 := ⟨dr_at drL_law_2040 (i := 40) rfl, rfl⟩
theorem dL_2105 : dc code 2105 2106 (.iconst 0) 1 := ⟨dr_at drL_law_2040 (i := 41) rfl, rfl⟩
theorem dL_2107 : dc code 2107 2110 (.goto 675) 3 := ⟨dr_at drL_law_2040 (i := 42) rfl, rfl⟩
theorem dL_2110 : dc code 2110 2111 (.aload_n 1) 1 := ⟨dr_at drL_law_2040 (i := 43) rfl, rfl⟩
theorem dL_2111 : dc code 2111 2112 (.aload_n 0) 1 := ⟨dr_at drL_law_2040 (i := 44) rfl, rfl⟩
theorem dL_2112 : dc code 2112 2114 (.iload 4) 2 := ⟨dr_at drL_law_2040 (i := 45) rfl, rfl⟩
theorem dL_2114 : dc code 2114 2115 (.iconst 1) 1 := ⟨dr_at drL_law_2040 (i := 46) rfl, rfl⟩
theorem dL_2115 : dc code 2115 2116 .iadd 1 := ⟨dr_at drL_law_2040 (i := 47) rfl, rfl⟩
theorem dL_2116 : dc code 2116 2117 .iaload 1 := ⟨dr_at drL_law_2040 (i := 48) rfl, rfl⟩
theorem dL_2117 : dc code 2117 2120 (.invokestatic 244) 3 := ⟨dr_at drL_law_2040 (i := 49) rfl, rfl⟩
theorem dL_2120 : dc code 2120 2122 (.istore 5) 2 := ⟨dr_at drL_law_2040 (i := 50) rfl, rfl⟩
theorem dL_2122 : dc code 2122 2123 (.aload_n 2) 1 := ⟨dr_at drL_law_2040 (i := 51) rfl, rfl⟩
theorem dL_2123 : dc code 2123 2124 (.aload_n 0) 1 := ⟨dr_at drL_law_2040 (i := 52) rfl, rfl⟩
theorem dL_2124 : dc code 2124 2126 (.iload 4) 2 := ⟨dr_at drL_law_2040 (i := 53) rfl, rfl⟩
theorem dL_2126 : dc code 2126 2127 (.iconst 1) 1 := ⟨dr_at drL_law_2040 (i := 54) rfl, rfl⟩
theorem dL_2127 : dc code 2127 2128 .iadd 1 := ⟨dr_at drL_law_2040 (i := 55) rfl, rfl⟩
theorem dL_2128 : dc code 2128 2129 .iaload 1 := ⟨dr_at drL_law_2040 (i := 56) rfl, rfl⟩
theorem dL_2129 : dc code 2129 2132 (.invokevirtual 246) 3 := ⟨dr_at drL_law_2040 (i := 57) rfl, rfl⟩
theorem dL_2132 : dc code 2132 2133 (.aload_n 2) 1 := ⟨dr_at drL_law_2040 (i := 58) rfl, rfl⟩
theorem dL_2133 : dc code 2133 2136 (.invokevirtual 150) 3 := ⟨dr_at drL_law_2040 (i := 59) rfl, rfl⟩
theorem dL_2136 : dc code 2136 2138 (.iload 5) 2 := ⟨dr_at drL_law_2040 (i := 60) rfl, rfl⟩
theorem dL_2138 : dc code 2138 2141 (.if_icmp .eq 5) 3 := ⟨dr_at drL_law_2040 (i := 61) rfl, rfl⟩
theorem dL_2141 : dc code 2141 2142 (.iconst 0) 1 := ⟨dr_at drL_law_2040 (i := 62) rfl, rfl⟩
theorem dL_2143 : dc code 2143 2146 (.goto 639) 3 := ⟨dr_at drL_law_2040 (i := 63) rfl, rfl⟩
theorem dL_2146 : dc code 2146 2147 (.aload_n 1) 1 := ⟨dr_at drL_law_2040 (i := 64) rfl, rfl⟩
theorem dL_2147 : dc code 2147 2148 (.aload_n 0) 1 := ⟨dr_at drL_law_2040 (i := 65) rfl, rfl⟩
theorem dL_2148 : dc code 2148 2150 (.iload 4) 2 := ⟨dr_at drL_law_2040 (i := 66) rfl, rfl⟩
theorem dL_2150 : dc code 2150 2151 (.iconst 1) 1 := ⟨dr_at drL_law_2040 (i := 67) rfl, rfl⟩
theorem dL_2151 : dc code 2151 2152 .iadd 1 := ⟨dr_at drL_law_2040 (i := 68) rfl, rfl⟩
theorem dL_2152 : dc code 2152 2153 .iaload 1 := ⟨dr_at drL_law_2040 (i := 69) rfl, rfl⟩
theorem dL_2153 : dc code 2153 2154 (.aload_n 0) 1 := ⟨dr_at drL_law_2040 (i := 70) rfl, rfl⟩
theorem dL_2154 : dc code 2154 2156 (.iload 4) 2 := ⟨dr_at drL_law_2040 (i := 71) rfl, rfl⟩
theorem dL_2156 : dc code 2156 2157 (.iconst 2) 1 := ⟨dr_at drL_law_2040 (i := 72) rfl, rfl⟩
theorem dL_2157 : dc code 2157 2158 .iadd 1 := ⟨dr_at drL_law_2040 (i := 73) rfl, rfl⟩
theorem dL_2158 : dc code 2158 2159 .iaload 1 := ⟨dr_at drL_law_2040 (i := 74) rfl, rfl⟩
theorem dL_2159 : dc code 2159 2160 (.aload_n 3) 1 := ⟨dr_at drL_law_2040 (i := 75) rfl, rfl⟩
theorem dL_2160 : dc code 2160 2163 (.invokestatic 247) 3 := ⟨dr_at drL_law_2040 (i := 76) rfl, rfl⟩
theorem dL_2163 : dc code 2163 2165 (.istore 5) 2 := ⟨dr_at drL_law_2040 (i := 77) rfl, rfl⟩
theorem dL_2165 : dc code 2165 2166 (.aload_n 2) 1 := ⟨dr_at drL_law_2040 (i := 78) rfl, rfl⟩
theorem dL_2166 : dc code 2166 2167 (.aload_n 0) 1 := ⟨dr_at drL_law_2040 (i := 79) rfl, rfl⟩
theorem dL_2167 : dc code 2167 2169 (.iload 4) 2 := ⟨dr_at drL_law_2040 (i := 80) rfl, rfl⟩
theorem dL_2169 : dc code 2169 2170 (.iconst 1) 1 := ⟨dr_at drL_law_2040 (i := 81) rfl, rfl⟩
theorem dL_2170 : dc code 2170 2171 .iadd 1 := ⟨dr_at drL_law_2040 (i := 82) rfl, rfl⟩
theorem dL_2171 : dc code 2171 2172 .iaload 1 := ⟨dr_at drL_law_2040 (i := 83) rfl, rfl⟩
theorem dL_2172 : dc code 2172 2173 (.aload_n 0) 1 := ⟨dr_at drL_law_2040 (i := 84) rfl, rfl⟩
theorem dL_2173 : dc code 2173 2175 (.iload 4) 2 := ⟨dr_at drL_law_2040 (i := 85) rfl, rfl⟩
theorem dL_2175 : dc code 2175 2176 (.iconst 2) 1 := ⟨dr_at drL_law_2040 (i := 86) rfl, rfl⟩
theorem dL_2176 : dc code 2176 2177 .iadd 1 := ⟨dr_at drL_law_2040 (i := 87) rfl, rfl⟩
theorem dL_2177 : dc code 2177 2178 .iaload 1 := ⟨dr_at drL_law_2040 (i := 88) rfl, rfl⟩
theorem dL_2178 : dc code 2178 2181 (.invokevirtual 249) 3 := ⟨dr_at drL_law_2040 (i := 89) rfl, rfl⟩
theorem dL_2181 : dc code 2181 2183 (.istore 6) 2 := ⟨dr_at drL_law_2040 (i := 90) rfl, rfl⟩
theorem dL_2183 : dc code 2183 2184 (.aload_n 2) 1 := ⟨dr_at drL_law_2040 (i := 91) rfl, rfl⟩
theorem dL_2184 : dc code 2184 2187 (.invokevirtual 150) 3 := ⟨dr_at drL_law_2040 (i := 92) rfl, rfl⟩
theorem dL_2187 : dc code 2187 2189 (.iload 5) 2 := ⟨dr_at drL_law_2040 (i := 93) rfl, rfl⟩
theorem dL_2189 : dc code 2189 2192 (.if_icmp .eq 5) 3 := ⟨dr_at drL_law_2040 (i := 94) rfl, rfl⟩
theorem dL_2192 : dc code 2192 2193 (.iconst 0) 1 := ⟨dr_at drL_law_2040 (i := 95) rfl, rfl⟩
theorem dL_2194 : dc code 2194 2196 (.iload 5) 2 := ⟨dr_at drL_law_2040 (i := 96) rfl, rfl⟩
theorem dL_2196 : dc code 2196 2199 (.ifCond .ne 15) 3 := ⟨dr_at drL_law_2040 (i := 97) rfl, rfl⟩
theorem dL_2199 : dc code 2199 2200 (.aload_n 3) 1 := ⟨dr_at drL_law_2040 (i := 98) rfl, rfl⟩
theorem dL_2200 : dc code 2200 2201 (.iconst 0) 1 := ⟨dr_at drL_law_2040 (i := 99) rfl, rfl⟩
theorem dL_2201 : dc code 2201 2202 .laload 1 := ⟨dr_at drL_law_2040 (i := 100) rfl, rfl⟩
theorem dL_2202 : dc code 2202 2204 (.iload 6) 2 := ⟨dr_at drL_law_2040 (i := 101) rfl, rfl⟩
theorem dL_2204 : dc code 2204 2205 .i2l 1 := ⟨dr_at drL_law_2040 (i := 102) rfl, rfl⟩
theorem dL_2205 : dc code 2205 2206 .lcmp 1 := ⟨dr_at drL_law_2040 (i := 103) rfl, rfl⟩
theorem dL_2206 : dc code 2206 2209 (.ifCond .eq 5) 3 := ⟨dr_at drL_law_2040 (i := 104) rfl, rfl⟩
theorem dL_2209 : dc code 2209 2210 (.iconst 0) 1 := ⟨dr_at drL_law_2040 (i := 105) rfl, rfl⟩
theorem dL_2211 : dc code 2211 2214 (.goto 571) 3 := ⟨dr_at drL_law_2040 (i := 106) rfl, rfl⟩
theorem dL_2214 : dc code 2214 2215 (.aload_n 1) 1 := ⟨dr_at drL_law_2040 (i := 107) rfl, rfl⟩
theorem dL_2215 : dc code 2215 2216 (.aload_n 0) 1 := ⟨dr_at drL_law_2040 (i := 108) rfl, rfl⟩
theorem dL_2216 : dc code 2216 2218 (.iload 4) 2 := ⟨dr_at drL_law_2040 (i := 109) rfl, rfl⟩
theorem dL_2218 : dc code 2218 2219 (.iconst 1) 1 := ⟨dr_at drL_law_2040 (i := 110) rfl, rfl⟩
theorem dL_2219 : dc code 2219 2220 .iadd 1 := ⟨dr_at drL_law_2040 (i := 111) rfl, rfl⟩
theorem dL_2220 : dc code 2220 2221 .iaload 1 := ⟨dr_at drL_law_2040 (i := 112) rfl, rfl⟩
theorem dL_2221 : dc code 2221 2222 (.aload_n 3) 1 := ⟨dr_at drL_law_2040 (i := 113) rfl, rfl⟩
theorem dL_2222 : dc code 2222 2225 (.invokestatic 250) 3 := ⟨dr_at drL_law_2040 (i := 114) rfl, rfl⟩
theorem dL_2225 : dc code 2225 2227 (.istore 5) 2 := ⟨dr_at drL_law_2040 (i := 115) rfl, rfl⟩
theorem dL_2227 : dc code 2227 2228 (.aload_n 2) 1 := ⟨dr_at drL_law_2040 (i := 116) rfl, rfl⟩
theorem dL_2228 : dc code 2228 2229 (.aload_n 0) 1 := ⟨dr_at drL_law_2040 (i := 117) rfl, rfl⟩
theorem dL_2229 : dc code 2229 2231 (.iload 4) 2 := ⟨dr_at drL_law_2040 (i := 118) rfl, rfl⟩
theorem dL_2231 : dc code 2231 2232 (.iconst 1) 1 := ⟨dr_at drL_law_2040 (i := 119) rfl, rfl⟩
theorem dL_2232 : dc code 2232 2233 .iadd 1 := ⟨dr_at drL_law_2040 (i := 120) rfl, rfl⟩
theorem dL_2233 : dc code 2233 2234 .iaload 1 := ⟨dr_at drL_law_2040 (i := 121) rfl, rfl⟩
theorem dL_2234 : dc code 2234 2237 (.invokevirtual 252) 3 := ⟨dr_at drL_law_2040 (i := 122) rfl, rfl⟩
theorem dL_2237 : dc code 2237 2239 (.istore 6) 2 := ⟨dr_at drL_law_2040 (i := 123) rfl, rfl⟩
theorem dL_2239 : dc code 2239 2240 (.aload_n 2) 1 := ⟨dr_at drL_law_2040 (i := 124) rfl, rfl⟩
theorem dL_2240 : dc code 2240 2243 (.invokevirtual 150) 3 := ⟨dr_at drL_law_2040 (i := 125) rfl, rfl⟩
theorem dL_2243 : dc code 2243 2245 (.iload 5) 2 := ⟨dr_at drL_law_2040 (i := 126) rfl, rfl⟩
theorem dL_2245 : dc code 2245 2248 (.if_icmp .eq 5) 3 := ⟨dr_at drL_law_2040 (i := 127) rfl, rfl⟩
theorem dL_2248 : dc code 2248 2249 (.iconst 0) 1 := ⟨dr_at drL_law_2040 (i := 128) rfl, rfl⟩
theorem dL_2250 : dc code 2250 2252 (.iload 5) 2 := ⟨dr_at drL_law_2040 (i := 129) rfl, rfl⟩
theorem dL_2252 : dc code 2252 2255 (.ifCond .ne 15) 3 := ⟨dr_at drL_law_2040 (i := 130) rfl, rfl⟩
theorem dL_2255 : dc code 2255 2256 (.aload_n 3) 1 := ⟨dr_at drL_law_2040 (i := 131) rfl, rfl⟩
theorem dL_2256 : dc code 2256 2257 (.iconst 0) 1 := ⟨dr_at drL_law_2040 (i := 132) rfl, rfl⟩
theorem dL_2257 : dc code 2257 2258 .laload 1 := ⟨dr_at drL_law_2040 (i := 133) rfl, rfl⟩
theorem dL_2258 : dc code 2258 2260 (.iload 6) 2 := ⟨dr_at drL_law_2040 (i := 134) rfl, rfl⟩
theorem dL_2260 : dc code 2260 2261 .i2l 1 := ⟨dr_at drL_law_2040 (i := 135) rfl, rfl⟩
theorem dL_2261 : dc code 2261 2262 .lcmp 1 := ⟨dr_at drL_law_2040 (i := 136) rfl, rfl⟩
theorem dL_2262 : dc code 2262 2265 (.ifCond .eq 5) 3 := ⟨dr_at drL_law_2040 (i := 137) rfl, rfl⟩
theorem dL_2265 : dc code 2265 2266 (.iconst 0) 1 := ⟨dr_at drL_law_2040 (i := 138) rfl, rfl⟩
theorem dL_2267 : dc code 2267 2270 (.goto 515) 3 := ⟨dr_at drL_law_2040 (i := 139) rfl, rfl⟩
theorem dL_2270 : dc code 2270 2271 (.aload_n 1) 1 := ⟨dr_at drL_law_2040 (i := 140) rfl, rfl⟩
theorem dL_2271 : dc code 2271 2272 (.aload_n 0) 1 := ⟨dr_at drL_law_2040 (i := 141) rfl, rfl⟩
theorem dL_2272 : dc code 2272 2274 (.iload 4) 2 := ⟨dr_at drL_law_2040 (i := 142) rfl, rfl⟩
theorem dL_2274 : dc code 2274 2275 (.iconst 1) 1 := ⟨dr_at drL_law_2040 (i := 143) rfl, rfl⟩
theorem dL_2275 : dc code 2275 2276 .iadd 1 := ⟨dr_at drL_law_2040 (i := 144) rfl, rfl⟩
theorem dL_2276 : dc code 2276 2277 .iaload 1 := ⟨dr_at drL_law_2040 (i := 145) rfl, rfl⟩
theorem dL_2277 : dc code 2277 2278 (.aload_n 3) 1 := ⟨dr_at drL_law_2040 (i := 146) rfl, rfl⟩
theorem dL_2278 : dc code 2278 2281 (.invokestatic 253) 3 := ⟨dr_at drL_law_2040 (i := 147) rfl, rfl⟩
theorem dL_2281 : dc code 2281 2283 (.istore 5) 2 := ⟨dr_at drL_law_2040 (i := 148) rfl, rfl⟩
theorem dL_2283 : dc code 2283 2284 (.aload_n 2) 1 := ⟨dr_at drL_law_2040 (i := 149) rfl, rfl⟩
