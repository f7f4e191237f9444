theorem drL_law_1599 : ([(1599, .iadd, 1), (1600, .iaload, 1), (1601, (.aload_n 0), 1), (1602, (.iload 4), 2), (1604, (.iconst 2), 1), (1605, .iadd, 1), (1606, .iaload, 1), (1607, (.aload_n 3), 1), (1608, (.invokestatic 244), 3), (1611, (.istore 5), 2), (1613, (.aload_n 2), 1), (1614, (.aload_n 0), 1), (1615, (.iload 4), 2), (1617, (.iconst 1), 1), (1618, .iadd, 1), (1619, .iaload, 1), (1620, (.aload_n 0), 1), (1621, (.iload 4), 2), (1623, (.iconst 2), 1), (1624, .iadd, 1), (1625, .iaload, 1), (1626, (.invokevirtual 246), 3), (1629, (.istore 6), 2), (1631, (.goto 368), 3), (1634, (.aload_n 1), 1), (1635, (.aload_n 0), 1), (1636, (.iload 4), 2), (1638, (.iconst 1), 1), (1639, .iadd, 1), (1640, .iaload, 1), (1641, (.aload_n 3), 1), (1642, (.invokestatic 247), 3), (1645, (.istore 5), 2), (1647, (.aload_n 2), 1), (1648, (.aload_n 0), 1), (1649, (.iload 4), 2), (1651, (.iconst 1), 1), (1652, .iadd, 1), (1653, .iaload, 1), (1654, (.invokevirtual 249), 3), (1657, (.istore 6), 2), (1659, (.goto 340), 3), (1662, (.aload_n 1), 1), (1663, (.aload_n 0), 1), (1664, (.iload 4), 2), (1666, (.iconst 1), 1), (1667, .iadd, 1), (1668, .iaload, 1), (1669, (.aload_n 3), 1), (1670, (.invokestatic 250), 3)] : List (Nat × Instr × Nat)).all (fun q => decide (decode code q.1 = .ok q.2)) = true := by decide +kernel
theorem dL_1599 : dc code 1599 1600 .iadd 1 := ⟨dr_at drL_law_1599 (i := 0) rfl, rfl⟩
theorem dL_1600 : dc code 1600 1601 .iaload 1 := ⟨dr_at drL_law_1599 (i := 1) rfl, rfl⟩
theorem dL_1601 : dc code 1601 1602 (.aload_n 0) 1 := ⟨dr_at drL_law_1599 (i := 2) rfl, rfl⟩
theorem dL_1602 : dc code 1602 1604 (.iload 4) 2 := ⟨dr_at drL_law_1599 (i := 3) rfl, rfl⟩
theorem dL_1604 : dc code 1604 1605 (.iconst 2) 1 := ⟨dr_at drL_law_1599 (i := 4) rfl, rfl⟩
theorem dL_1605 : dc code 1605 1606 .iadd 1 := ⟨dr_at drL_law_1599 (i := 5) rfl, rfl⟩
theorem dL_1606 : dc code 1606 1607 .iaload 1 := ⟨dr_at drL_law_1599 (i := 6) rfl, rfl⟩
theorem dL_1607 : dc code 1607 1608 (.aload_n 3) 1 := ⟨dr_at drL_law_1599 (i := 7) rfl, rfl⟩
theorem dL_1608 : dc code 1608 1611 (.invokestatic 244) 3 := ⟨dr_at drL_law_1599 (i := 8) rfl, rfl⟩
theorem dL_1611 : dc code 1611 1613 (.istore 5) 2 := ⟨dr_at drL_law_1599 (i := 9) rfl, rfl⟩
theorem dL_1613 : dc code 1613 1614 (.aload_n 2) 1 := ⟨dr_at drL_law_1599 (i := 10) rfl, rfl⟩
theorem dL_1614 : dc code 1614 1615 (.aload_n 0) 1 := ⟨dr_at drL_law_1599 (i := 11) rfl, rfl⟩
theorem dL_1615 : dc code 1615 1617 (.iload 4) 2 := ⟨dr_at drL_law_1599 (i := 12) rfl, rfl⟩
theorem dL_1617 : dc code 1617 1618 (.iconst 1) 1 := ⟨dr_at drL_law_1599 (i := 13) rfl, rfl⟩
theorem dL_1618 : dc code 1618 1619 .iadd 1 := ⟨dr_at drL_law_1599 (i := 14) rfl, rfl⟩
theorem dL_1619 : dc code 1619 1620 .iaload 1 := ⟨dr_at drL_law_1599 (i := 15) rfl, rfl⟩
theorem dL_1620 : dc code 1620 1621 (.aload_n 0) 1 := ⟨dr_at drL_law_1599 (i := 16) rfl, rfl⟩
theorem dL_1621 : dc code 1621 1623 (.iload 4) 2 := ⟨dr_at drL_law_1599 (i := 17) rfl, rfl⟩
theorem dL_1623 : dc code 1623 1624 (.iconst 2) 1 := ⟨dr_at drL_law_1599 (i := 18) rfl, rfl⟩
theorem dL_1624 : dc code 1624 1625 .iadd 1 := ⟨dr_at drL_law_1599 (i := 19) rfl, rfl⟩
theorem dL_1625 : dc code 1625 1626 .iaload 1 := ⟨dr_at drL_law_1599 (i := 20) rfl, rfl⟩
theorem dL_1626 : dc code 1626 1629 (.invokevirtual 246) 3 := ⟨dr_at drL_law_1599 (i := 21) rfl, rfl⟩
theorem dL_1629 : dc code 1629 1631 (.istore 6) 2 := ⟨dr_at drL_law_1599 (i := 22) rfl, rfl⟩
theorem dL_1631 : dc code 1631 1634 (.goto 368) 3 := ⟨dr_at drL_law_1599 (i := 23) rfl, rfl⟩
theorem dL_1634 : dc code 1634 1635 (.aload_n 1) 1 := ⟨dr_at drL_law_1599 (i := 24) rfl, rfl⟩
theorem dL_1635 : dc code 1635 1636 (.aload_n 0) 1 := ⟨dr_at drL_law_1599 (i := 25) rfl, rfl⟩
theorem dL_1636 : dc code 1636 1638 (.iload 4) 2 := ⟨dr_at drL_law_1599 (i := 26) rfl, rfl⟩
theorem dL_1638 : dc code 1638 1639 (.iconst 1) 1 := ⟨dr_at drL_law_1599 (i := 27) rfl, rfl⟩
theorem dL_1639 : dc code 1639 1640 .iadd 1 := ⟨dr_at drL_law_1599 (i := 28) rfl, rfl⟩
theorem dL_1640 : dc code 1640 1641 .iaload 1 := ⟨dr_at drL_law_1599 (i := 29) rfl, rfl⟩
theorem dL_1641 : dc code 1641 1642 (.aload_n 3) 1 := ⟨dr_at drL_law_1599 (i := 30) rfl, rfl⟩
theorem dL_1642 : dc code 1642 1645 (.invokestatic 247) 3 := ⟨dr_at drL_law_1599 (i := 31) rfl, rfl⟩
theorem dL_1645 : dc code 1645 1647 (.istore 5) 2 := ⟨dr_at drL_law_1599 (i := 32) rfl, rfl⟩
theorem dL_1647 : dc code 1647 1648 (.aload_n 2) 1 := ⟨dr_at drL_law_1599 (i := 33) rfl, rfl⟩
theorem dL_1648 : dc code 1648 1649 (.aload_n 0) 1 := ⟨dr_at drL_law_1599 (i := 34) rfl, rfl⟩
theorem dL_1649 : dc code 1649 1651 (.iload 4) 2 := ⟨dr_at drL_law_1599 (i := 35) rfl, rfl⟩
theorem dL_1651 : dc code 1651 1652 (.iconst 1) 1 := ⟨dr_at drL_law_1599 (i := 36) rfl, rfl⟩
theorem dL_1652 : dc code 1652 1653 .iadd 1 := ⟨dr_at drL_law_1599 (i := 37) rfl, rfl⟩
theorem dL_1653 : dc code 1653 1654 .iaload 1 := ⟨dr_at drL_law_1599 (i := 38) rfl, rfl⟩
theorem dL_1654 : dc code 1654 1657 (.invokevirtual 249) 3 := ⟨dr_at drL_law_1599 (i := 39) rfl, rfl⟩
theorem dL_1657 : dc code 1657 1659 (.istore 6) 2 := ⟨dr_at drL_law_1599 (i := 40) rfl, rfl⟩
theorem dL_1659 : dc code 1659 1662 (.goto 340) 3 := ⟨dr_at drL_law_1599 (i := 41) rfl, rfl⟩
theorem dL_1662 : dc code 1662 1663 (.aload_n 1) 1 := ⟨dr_at drL_law_1599 (i := 42) rfl, rfl⟩
theorem dL_1663 : dc code 1663 1664 (.aload_n 0) 1 := ⟨dr_at drL_law_1599 (i := 43) rfl, rfl⟩
theorem dL_1664 : dc code 1664 1666 (.iload 4) 2 := ⟨dr_at drL_law_1599 (i := 44) rfl, rfl⟩
theorem dL_1666 : dc code 1666 1667 (.iconst 1) 1 := ⟨dr_at drL_law_1599 (i := 45) rfl, rfl⟩
theorem dL_1667 : dc code 1667 1668 .iadd 1 := ⟨dr_at drL_law_1599 (i := 46) rfl, rfl⟩
theorem dL_1668 : dc code 1668 1669 .iaload 1 := ⟨dr_at drL_law_1599 (i := 47) rfl, rfl⟩
theorem dL_1669 : dc code 1669 1670 (.aload_n 3) 1 := ⟨dr_at drL_law_1599 (i := 48) rfl, rfl⟩
theorem dL_1670 : dc code 1670 1673 (.invokestatic 250) 3 := ⟨dr_at drL_law_1599 (i := 49) rfl, rfl⟩
theorem drL_law_1673 : ([(1673, (.istore 5), 2), (1675, (.aload_n 2), 1), (1676, (.aload_n 0), 1), (1677, (.iload 4), 2), (1679, (.iconst 1), 1), (1680, .iadd, 1), (1681, .iaload, 1), (1682, (.invokevirtual 252), 3), (1685, (.istore 6), 2), (1687, (.goto 312), 3), (1690, (.aload_n 1), 1), (1691, (.aload_n 0), 1), (1692, (.iload 4), 2), (1694, (.iconst 1), 1), (1695, .iadd, 1), (1696, .iaload, 1), (1697, (.aload_n 3), 1), (1698, (.invokestatic 253), 3), (1701, (.istore 5), 2), (1703, (.aload_n 2), 1), (1704, (.aload_n 0), 1), (1705, (.iload 4), 2), (1707, (.iconst 1), 1), (1708, .iadd, 1), (1709, .iaload, 1), (1710, (.invokevirtual 255), 3), (1713, (.istore 6), 2), (1715, (.goto 284), 3), (1718, (.aload_n 1), 1), (1719, (.aload_n 0), 1), (1720, (.iload 4), 2), (1722, (.iconst 1), 1), (1723, .iadd, 1), (1724, .iaload, 1), (1725, (.aload_n 0), 1), (1726, (.iload 4), 2), (1728, (.iconst 2), 1), (1729, .iadd, 1), (1730, .iaload, 1), (1731, (.aload_n 3), 1), (1732, (.invokestatic 256), 3), (1735, (.istore 5), 2), (1737, (.aload_n 2), 1), (1738, (.aload_n 0), 1), (1739, (.iload 4), 2), (1741, (.iconst 1), 1), (1742, .iadd, 1)] : List (Nat × Instr × Nat)).all (fun q => decide (decode code q.1 = .ok q.2)) = true := by decide +kernel
theorem dL_1673 : dc code 1673 1675 (.istore 5) 2 := ⟨dr_at drL_law_1673 (i := 0) rfl, rfl⟩
theorem dL_1675 : dc code 1675 1676 (.aload_n 2) 1 := ⟨dr_at drL_law_1673 (i := 1) rfl, rfl⟩
theorem dL_1676 : dc code 1676 1677 (.aload_n 0) 1 := ⟨dr_at drL_law_1673 (i := 2) rfl, rfl⟩
theorem dL_1677 : dc code 1677 1679 (.iload 4) 2 := ⟨dr_at drL_law_1673 (i := 3) rfl, rfl⟩
theorem dL_1679 : dc code 1679 1680 (.iconst 1) 1 := ⟨dr_at drL_law_1673 (i := 4) rfl, rfl⟩
theorem dL_1680 : dc code 1680 1681 .iadd 1 := ⟨dr_at drL_law_1673 (i := 5) rfl, rfl⟩
theorem dL_1681 : dc code 1681 1682 .iaload 1 := ⟨dr_at drL_law_1673 (i := 6) rfl, rfl⟩
theorem dL_1682 : dc code 1682 1685 (.invokevirtual 252) 3 := ⟨dr_at drL_law_1673 (i := 7) rfl, rfl⟩
theorem dL_1685 : dc code 1685 1687 (.istore 6) 2 := ⟨dr_at drL_law_1673 (i := 8) rfl, rfl⟩
theorem dL_1687 : dc code 1687 1690 (.goto 312) 3 := ⟨dr_at drL_law_1673 (i := 9) rfl, rfl⟩
theorem dL_1690 : dc code 1690 1691 (.aload_n 1) 1 := ⟨dr_at drL_law_1673 (i := 10) rfl, rfl⟩
theorem dL_1691 : dc code 1691 1692 (.aload_n 0) 1 := ⟨dr_at drL_law_1673 (i := 11) rfl, rfl⟩
theorem dL_1692 : dc code 1692 1694 (.iload 4) 2 := ⟨dr_at drL_law_1673 (i := 12) rfl, rfl⟩
theorem dL_1694 : dc code 1694 1695 (.iconst 1) 1 := ⟨dr_at drL_law_1673 (i := 13) rfl, rfl⟩
theorem dL_1695 : dc code 1695 1696 .iadd 1 := ⟨dr_at drL_law_1673 (i := 14) rfl, rfl⟩
theorem dL_1696 : dc code 1696 1697 .iaload 1 := ⟨dr_at drL_law_1673 (i := 15) rfl, rfl⟩
theorem dL_1697 : dc code 1697 1698 (.aload_n 3) 1 := ⟨dr_at drL_law_1673 (i := 16) rfl, rfl⟩
theorem dL_1698 : dc code 1698 1701 (.invokestatic 253) 3 := ⟨dr_at drL_law_1673 (i := 17) rfl, rfl⟩
theorem dL_1701 : dc code 1701 1703 (.istore 5) 2 := ⟨dr_at drL_law_1673 (i := 18) rfl, rfl⟩
theorem dL_1703 : dc code 1703 1704 (.aload_n 2) 1 := ⟨dr_at drL_law_1673 (i := 19) rfl, rfl⟩
theorem dL_1704 : dc code 1704 1705 (.aload_n 0) 1 := ⟨dr_at drL_law_1673 (i := 20) rfl, rfl⟩
theorem dL_1705 : dc code 1705 1707 (.iload 4) 2 := ⟨dr_at drL_law_1673 (i := 21) rfl, rfl⟩
theorem dL_1707 : dc code 1707 1708 (.iconst 1) 1 := ⟨dr_at drL_law_1673 (i := 22) rfl, rfl⟩
theorem dL_1708 : dc code 1708 1709 .iadd 1 := ⟨dr_at drL_law_1673 (i := 23) rfl, rfl⟩
theorem dL_1709 : dc code 1709 1710 .iaload 1 := ⟨dr_at drL_law_1673 (i := 24) rfl, rfl⟩
theorem dL_1710 : dc code 1710 1713 (.invokevirtual 255) 3 := ⟨dr_at drL_law_1673 (i := 25) rfl, rfl⟩
theorem dL_1713 : dc code 1713 1715 (.istore 6) 2 := ⟨dr_at drL_law_1673 (i := 26) rfl, rfl⟩
theorem dL_1715 : dc code 1715 1718 (.goto 284) 3 := ⟨dr_at drL_law_1673 (i := 27) rfl, rfl⟩
theorem dL_1718 : dc code 1718 1719 (.aload_n 1) 1 := ⟨dr_at drL_law_1673 (i := 28) rfl, rfl⟩
theorem dL_1719 : dc code 1719 1720 (.aload_n 0) 1 := ⟨dr_at drL_law_1673 (i := 29) rfl, rfl⟩
theorem dL_1720 : dc code 1720 1722 (.iload 4) 2 := ⟨dr_at drL_law_1673 (i := 30) rfl, rfl⟩
theorem dL_1722 : dc code 1722 1723 (.iconst 1) 1 := ⟨dr_at drL_law_1673 (i := 31) rfl, rfl⟩
theorem dL_1723 : dc code 1723 1724 .iadd 1 := ⟨dr_at drL_law_1673 (i := 32) rfl, rfl⟩
theorem dL_1724 : dc code 1724 1725 .iaload 1 := ⟨dr_at drL_law_1673 (i := 33) rfl, rfl⟩
theorem dL_1725 : dc code 1725 1726 (.aload_n 0) 1 := ⟨dr_at drL_law_1673 (i := 34) rfl, rfl⟩
theorem dL_1726 : dc code 1726 1728 (.iload 4) 2 := ⟨dr_at drL_law_1673 (i := 35) rfl, rfl⟩
theorem dL_1728 : dc code 1728 1729 (.iconst 2) 1 := ⟨dr_at drL_law_1673 (i := 36) rfl, rfl⟩
theorem dL_1729 : dc code 1729 1730 .iadd 1 := ⟨dr_at drL_law_1673 (i := 37) rfl, rfl⟩
theorem dL_1730 : dc code 1730 1731 .iaload 1 := ⟨dr_at drL_law_1673 (i := 38) rfl, rfl⟩
theorem dL_1731 : dc code 1731 1732 (.aload_n 3) 1 := ⟨dr_at drL_law_1673 (i := 39) rfl, rfl⟩
theorem dL_1732 : dc code 1732 1735 (.invokestatic 256) 3 := ⟨dr_at drL_law_1673 (i := 40) rfl, rfl⟩
theorem dL_1735 : dc code 1735 1737 (.istore 5) 2 := ⟨dr_at drL_law_1673 (i := 41) rfl, rfl⟩
theorem dL_1737 : dc code 1737 1738 (.aload_n 2) 1 := ⟨dr_at drL_law_1673 (i := 42) rfl, rfl⟩
theorem dL_1738 : dc code 1738 1739 (.aload_n 0) 1 := ⟨dr_at drL_law_1673 (i := 43) rfl, rfl⟩
theorem dL_1739 : dc code 1739 1741 (.iload 4) 2 := ⟨dr_at drL_law_1673 (i := 44) rfl, rfl⟩
theorem dL_1741 : dc code 1741 1742 (.iconst 1) 1 := ⟨dr_at drL_law_1673 (i := 45) rfl, rfl⟩
theorem dL_1742 : dc code 1742 1743 .iadd 1 := ⟨dr_at drL_law_1673 (i := 46) rfl, rfl⟩
theorem drL_law_1743 : ([(1743, .iaload, 1), (1744, (.aload_n 0), 1), (1745, (.iload 4), 2), (1747, (.iconst 2), 1), (1748, .iadd, 1), (1749, .iaload, 1), (1750, (.invokevirtual 258), 3), (1753, (.istore 6), 2), (1755, (.goto 244), 3), (1758, (.aload_n 1), 1), (1759, (.aload_n 0), 1), (1760, (.iload 4), 2), (1762, (.iconst 1), 1), (1763, .iadd, 1), (1764, .iaload, 1), (1765, (.aload_n 0), 1), (1766, (.iload 4), 2), (1768, (.iconst 2), 1), (1769, .iadd, 1), (1770, .iaload, 1), (1771, (.aload_n 3), 1), (1772, (.invokestatic 259), 3), (1775, (.istore 5), 2), (1777, (.aload_n 2), 1), (1778, (.aload_n 0), 1), (1779, (.iload 4), 2), (1781, (.iconst 1), 1), (1782, .iadd, 1), (1783, .iaload, 1), (1784, (.aload_n 0), 1), (1785, (.iload 4), 2), (1787, (.iconst 2), 1), (1788, .iadd, 1), (1789, .iaload, 1), (1790, (.invokevirtual 261), 3), (1793, (.istore 6), 2), (1795, (.goto 204), 3), (1798, (.aload_n 1), 1), (1799, (.aload_n 0), 1), (1800, (.iload 4), 2), (1802, (.iconst 1), 1), (1803, .iadd, 1), (1804, .iaload, 1), (1805, (.aload_n 0), 1), (1806, (.iload 4), 2)] : List (Nat × Instr × Nat)).all (fun q => decide (decode code q.1 = .ok q.2)) = true := by decide +kernel
theorem dL_1743 : dc code 1743 1744 .iaload 1 := ⟨dr_at drL_law_1743 (i := 0) rfl, rfl⟩
theorem dL_1744 : dc code 1744 1745 (.aload_n 0) 1 := ⟨dr_at drL_law_1743 (i := 1) rfl, rfl⟩
theorem dL_1745 : dc code 1745 1747 (.iload 4) 2 := ⟨dr_at drL_law_1743 (i := 2) rfl, rfl⟩
theorem dL_1747 : dc code 1747 1748 (.iconst 2) 1 := ⟨dr_at drL_law_1743 (i := 3) rfl, rfl⟩
theorem dL_1748 : dc code 1748 1749 .iadd 1 := ⟨dr_at drL_law_1743 (i := 4) rfl, rfl⟩
theorem dL_1749 : dc code 1749 1750 .iaload 1 := ⟨dr_at drL_law_1743 (i := 5) rfl, rfl⟩
theorem dL_1750 : dc code 1750 1753 (.invokevirtual 258) 3 := ⟨dr_at drL_law_1743 (i := 6) rfl, rfl⟩
theorem dL_1753 : dc code 1753 1755 (.istore 6) 2 := ⟨dr_at drL_law_1743 (i := 7) rfl, rfl⟩
theorem dL_1755 : dc code 1755 1758 (.goto 244) 3 := ⟨dr_at drL_law_1743 (i := 8) rfl, rfl⟩
theorem dL_1758 : dc code 1758 1759 (.aload_n 1) 1 := ⟨dr_at drL_law_1743 (i := 9) rfl, rfl⟩
theorem dL_1759 : dc code 1759 1760 (.aload_n 0) 1 := ⟨dr_at drL_law_1743 (i := 10) rfl, rfl⟩
theorem dL_1760 : dc code 1760 1762 (.iload 4) 2 := ⟨dr_at drL_law_1743 (i := 11) rfl, rfl⟩
theorem dL_1762 : dc code 1762 1763 (.iconst 1) 1 := ⟨dr_at drL_law_1743 (i := 12) rfl, rfl⟩
theorem dL_1763 : dc code 1763 1764 .iadd 1 := ⟨dr_at drL_law_1743 (i := 13) rfl, rfl⟩
theorem dL_1764 : dc code 1764 1765 .iaload 1 := ⟨dr_at drL_law_1743 (i := 14) rfl, rfl⟩
theorem dL_1765 : dc code 1765 1766 (.aload_n 0) 1 := ⟨dr_at drL_law_1743 (i := 15) rfl, rfl⟩
theorem dL_1766 : dc code 1766 1768 (.iload 4) 2 := ⟨dr_at drL_law_1743 (i := 16) rfl, rfl⟩
theorem dL_1768 : dc code 1768 1769 (.iconst 2) 1 := ⟨dr_at drL_law_1743 (i := 17) rfl, rfl⟩
theorem dL_1769 : dc code 1769 1770 .iadd 1 := ⟨dr_at drL_law_1743 (i := 18) rfl, rfl⟩
theorem dL_1770 : dc code 1770 1771 .iaload 1 := ⟨dr_at drL_law_1743 (i := 19) rfl, rfl⟩
theorem dL_1771 : dc code 1771 1772 (.aload_n 3) 1 := ⟨dr_at drL_law_1743 (i := 20) rfl, rfl⟩
theorem dL_1772 : dc code 1772 1775 (.invokestatic 259) 3 := ⟨dr_at drL_law_1743 (i := 21) rfl, rfl⟩
theorem dL_1775 : dc code 1775 1777 (.istore 5) 2 := ⟨dr_at drL_law_1743 (i := 22) rfl, rfl⟩
theorem dL_1777 : dc code 1777 1778 (.aload_n 2) 1 := ⟨dr_at drL_law_1743 (i := 23) rfl, rfl⟩
theorem dL_1778 : dc code 1778 1779 (.aload_n 0) 1 := ⟨dr_at drL_law_1743 (i := 24) rfl, rfl⟩
theorem dL_1779 : dc code 1779 1781 (.iload 4) 2 := ⟨dr_at drL_law_1743 (i := 25) rfl, rfl⟩
theorem dL_1781 : dc code 1781 1782 (.iconst 1) 1 := ⟨dr_at drL_law_1743 (i := 26) rfl, rfl⟩
theorem dL_1782 : dc code 1782 1783 .iadd 1 := ⟨dr_at drL_law_1743 (i := 27) rfl, rfl⟩
theorem dL_1783 : dc code 1783 1784 .iaload 1 := ⟨dr_at drL_law_1743 (i := 28) rfl, rfl⟩
theorem dL_1784 : dc code 1784 1785 (.aload_n 0) 1 := ⟨dr_at drL_law_1743 (i := 29) rfl, rfl⟩
theorem dL_1785 : dc code 1785 1787 (.iload 4) 2 := ⟨dr_at drL_law_1743 (i := 30) rfl, rfl⟩
theorem dL_1787 : dc code 1787 1788 (.iconst 2) 1 := ⟨dr_at drL_law_1743 (i := 31) rfl, rfl⟩
theorem dL_1788 : dc code 1788 1789 .iadd 1 := ⟨dr_at drL_law_1743 (i := 32) rfl, rfl⟩
theorem dL_1789 : dc code 1789 1790 .iaload 1 := ⟨dr_at drL_law_1743 (i := 33) rfl, rfl⟩
theorem dL_1790 : dc code 1790 1793 (.invokevirtual 261) 3 := ⟨dr_at drL_law_1743 (i := 34) rfl, rfl⟩
theorem dL_1793 : dc code 1793 1795 (.istore 6) 2 := ⟨dr_at drL_law_1743 (i := 35) rfl, rfl⟩
theorem dL_1795 : dc code 1795 1798 (.goto 204) 3 := ⟨dr_at drL_law_1743 (i := 36) rfl, rfl⟩
theorem dL_1798 : dc code 1798 1799 (.aload_n 1) 1 := ⟨dr_at drL_law_1743 (i := 37) rfl, rfl⟩
theorem dL_1799 : dc code 1799 1800 (.aload_n 0) 1 := ⟨dr_at drL_law_1743 (i := 38) rfl, rfl⟩
theorem dL_1800 : dc code 1800 1802 (.iload 4) 2 := ⟨dr_at drL_law_1743 (i := 39) rfl, rfl⟩
theorem dL_1802 : dc code 1802 1803 (.iconst 1) 1 := ⟨dr_at drL_law_1743 (i := 40) rfl, rfl⟩
theorem dL_1803 : dc code 1803 1804 .iadd 1 := ⟨dr_at drL_law_1743 (i := 41) rfl, rfl⟩
theorem dL_1804 : dc code 1804 1805 .iaload 1 := ⟨dr_at drL_law_1743 (i := 42) rfl, rfl⟩
theorem dL_1805 : dc code 1805 1806 (.aload_n 0) 1 := ⟨dr_at drL_law_1743 (i := 43) rfl, rfl⟩
theorem dL_1806 : dc code 1806 1808 (.iload 4) 2 := ⟨dr_at drL_law_1743 (i := 44) rfl, rfl⟩
theorem drL_law_1808 : ([(1808, (.iconst 2), 1), (1809, .iadd, 1), (1810, .iaload, 1), (1811, (.aload_n 3), 1), (1812, (.invokestatic 262), 3), (1815, (.istore 5), 2), (1817, (.aload_n 2), 1), (1818, (.aload_n 0), 1), (1819, (.iload 4), 2), (1821, (.iconst 1), 1), (1822, .iadd, 1), (1823, .iaload, 1), (1824, (.aload_n 0), 1), (1825, (.iload 4), 2), (1827, (.iconst 2), 1), (1828, .iadd, 1), (1829, .iaload, 1), (1830, (.invokevirtual 264), 3), (1833, (.istore 6), 2), (1835, (.goto 164), 3), (1838, (.aload_n 1), 1), (1839, (.aload_n 0), 1), (1840, (.iload 4), 2), (1842, (.iconst 1), 1), (1843, .iadd, 1), (1844, .iaload, 1), (1845, (.aload_n 0), 1), (1846, (.iload 4), 2), (1848, (.iconst 2), 1), (1849, .iadd, 1), (1850, .iaload, 1), (1851, (.ifCond .eq 7), 3), (1854, (.iconst 1), 1), (1855, (.goto 4), 3), (1858, (.iconst 0), 1), (1859, (.aload_n 3), 1), (1860, (.invokestatic 265), 3), (1863, (.istore 5), 2), (1865, (.aload_n 2), 1), (1866, (.aload_n 0), 1), (1867, (.iload 4), 2), (1869, (.iconst 1), 1), (1870, .iadd, 1), (1871, .iaload, 1)] : List (Nat × Instr × Nat)).all (fun q => decide (decode code q.1 = .ok q.2)) = true := by decide +kernel
theorem dL_1808 : dc code 1808 1809 (.iconst 2) 1 := ⟨dr_at drL_law_1808 (i := 0) rfl, rfl⟩
theorem dL_1809 : dc code 1809 1810 .iadd 1 := ⟨dr_at drL_law_1808 (i := 1) rfl, rfl⟩
theorem dL_1810 : dc code 1810 1811 .iaload 1 := ⟨dr_at drL_law_1808 (i := 2) rfl, rfl⟩
theorem dL_1811 : dc code 1811 1812 (.aload_n 3) 1 := ⟨dr_at drL_law_1808 (i := 3) rfl, rfl⟩
theorem dL_1812 : dc code 1812 1815 (.invokestatic 262) 3 := ⟨dr_at drL_law_1808 (i := 4) rfl, rfl⟩
theorem dL_1815 : dc code 1815 1817 (.istore 5) 2 := ⟨dr_at drL_law_1808 (i := 5) rfl, rfl⟩
theorem dL_1817 : dc code 1817 1818 (.aload_n 2) 1 := ⟨dr_at drL_law_1808 (i := 6) rfl, rfl⟩
theorem dL_1818 : dc code 1818 1819 (.aload_n 0) 1 := ⟨dr_at drL_law_1808 (i := 7) rfl, rfl⟩
theorem dL_1819 : dc code 1819 1821 (.iload 4) 2 := ⟨dr_at drL_law_1808 (i := 8) rfl, rfl⟩
theorem dL_1821 : dc code 1821 1822 (.iconst 1) 1 := ⟨dr_at drL_law_1808 (i := 9) rfl, rfl⟩
theorem dL_1822 : dc code 1822 1823 .iadd 1 := ⟨dr_at drL_law_1808 (i := 10) rfl, rfl⟩
theorem dL_1823 : dc code 1823 1824 .iaload 1 := ⟨dr_at drL_law_1808 (i := 11) rfl, rfl⟩
theorem dL_1824 : dc code 1824 1825 (.aload_n 0) 1 := ⟨dr_at drL_law_1808 (i := 12) rfl, rfl⟩
theorem dL_1825 : dc code 1825 1827 (.iload 4) 2 := ⟨dr_at drL_law_1808 (i := 13) rfl, rfl⟩
theorem dL_1827 : dc code 1827 1828 (.iconst 2) 1 := ⟨dr_at drL_law_1808 (i := 14) rfl, rfl⟩
theorem dL_1828 : dc code 1828 1829 .iadd 1 := ⟨dr_at drL_law_1808 (i := 15) rfl, rfl⟩
theorem dL_1829 : dc code 1829 1830 .iaload 1 := ⟨dr_at drL_law_1808 (i := 16) rfl, rfl⟩
theorem dL_1830 : dc code 1830 1833 (.invokevirtual 264) 3 := ⟨dr_at drL_law_1808 (i := 17) rfl, rfl⟩
theorem dL_1833 : dc code 1833 1835 (.istore 6) 2 := ⟨dr_at drL_law_1808 (i := 18) rfl, rfl⟩
theorem dL_1835 : dc code 1835 1838 (.goto 164) 3 := ⟨dr_at drL_law_1808 (i := 19) rfl, rfl⟩
theorem dL_1838 : dc code 1838 1839 (.aload_n 1) 1 := ⟨dr_at drL_law_1808 (i := 20) rfl, rfl⟩
theorem dL_1839 : dc code 1839 1840 (.aload_n 0) 1 := ⟨dr_at drL_law_1808 (i := 21) rfl, rfl⟩
theorem dL_1840 : dc code 1840 1842 (.iload 4) 2 := ⟨dr_at drL_law_1808 (i := 22) rfl, rfl⟩
theorem dL_1842 : dc code 1842 1843 (.iconst 1) 1 := ⟨dr_at drL_law_1808 (i := 23) rfl, rfl⟩
theorem dL_1843 : dc code 1843 1844 .iadd 1 := ⟨dr_at drL_law_1808 (i := 24) rfl, rfl⟩
theorem dL_1844 : dc code 1844 1845 .iaload 1 := ⟨dr_at drL_law_1808 (i := 25) rfl, rfl⟩
theorem dL_1845 : dc code 1845 1846 (.aload_n 0) 1 := ⟨dr_at drL_law_1808 (i := 26) rfl, rfl⟩
theorem dL_1846 : dc code 1846 1848 (.iload 4) 2 := ⟨dr_at drL_law_1808 (i := 27) rfl, rfl⟩
theorem dL_1848 : dc code 1848 1849 (.iconst 2) 1 := ⟨dr_at drL_law_1808 (i := 28) rfl, rfl⟩
theorem dL_1849 : dc code 1849 1850 .iadd 1 := ⟨dr_at drL_law_1808 (i := 29) rfl, rfl⟩
theorem dL_1850 : dc code 1850 1851 .iaload 1 := ⟨dr_at drL_law_1808 (i := 30) rfl, rfl⟩
theorem dL_1851 : dc code 1851 1854 (.ifCond .eq 7) 3 := ⟨dr_at drL_law_1808 (i := 31) rfl, rfl⟩
theorem dL_1854 : dc code 1854 1855 (.iconst 1) 1 := ⟨dr_at drL_law_1808 (i := 32) rfl, rfl⟩
theorem dL_1855 : dc code 1855 1858 (.goto 4) 3 := ⟨dr_at drL_law_1808 (i := 33) rfl, rfl⟩
theorem dL_1858 : dc code 1858 1859 (.iconst 0) 1 := ⟨dr_at drL_law_1808 (i := 34) rfl, rfl⟩
theorem dL_1859 : dc code 1859 1860 (.aload_n 3) 1 := ⟨dr_at drL_law_1808 (i := 35) rfl, rfl⟩
theorem dL_1860 : dc code 1860 1863 (.invokestatic 265) 3 := ⟨dr_at drL_law_1808 (i := 36) rfl, rfl⟩
theorem dL_1863 : dc code 1863 1865 (.istore 5) 2 := ⟨dr_at drL_law_1808 (i := 37) rfl, rfl⟩
theorem dL_1865 : dc code 1865 1866 (.aload_n 2) 1 := ⟨dr_at drL_law_1808 (i := 38) rfl, rfl⟩
theorem dL_1866 : dc code 1866 1867 (.aload_n 0) 1 := ⟨dr_at drL_law_1808 (i := 39) rfl, rfl⟩
theorem dL_1867 : dc code 1867 1869 (.iload 4) 2 := ⟨dr_at drL_law_1808 (i := 40) rfl, rfl⟩
theorem dL_1869 : dc code 1869 1870 (.iconst 1) 1 := ⟨dr_at drL_law_1808 (i := 41) rfl, rfl⟩
theorem dL_1870 : dc code 1870 1871 .iadd 1 := ⟨dr_at drL_law_1808 (i := 42) rfl, rfl⟩
theorem dL_1871 : dc code 1871 1872 .iaload 1 := ⟨dr_at drL_law_1808 (i := 43) rfl, rfl⟩
theorem drL_law_1872 : ([(1872, (.aload_n 0), 1), (1873, (.iload 4), 2), (1875, (.iconst 2), 1), (1876, .iadd, 1), (1877, .iaload, 1), (1878, (.ifCond .eq 7), 3), (1881, (.iconst 1), 1), (1882, (.goto 4), 3), (1885, (.iconst 0), 1), (1886, (.invokevirtual 267), 3), (1889, (.istore 6), 2), (1891, (.goto 108), 3), (1894, (.aload_n 1), 1), (1895, (.aload_n 0), 1), (1896, (.iload 4), 2), (1898, (.iconst 1), 1), (1899, .iadd, 1), (1900, .iaload, 1), (1901, (.aload_n 3), 1), (1902, (.invokestatic 268), 3), (1905, (.istore 5), 2), (1907, (.aload_n 2), 1), (1908, (.aload_n 0), 1), (1909, (.iload 4), 2), (1911, (.iconst 1), 1), (1912, .iadd, 1), (1913, .iaload, 1), (1914, (.invokevirtual 270), 3), (1917, (.istore 6), 2), (1919, (.aload_n 2), 1), (1920, (.invokevirtual 271), 3), (1923, (.iload 5), 2), (1925, (.if_icmp .eq 5), 3), (1928, (.iconst 0), 1), (1930, (.iload 5), 2), (1932, (.ifCond .ne 15), 3), (1935, (.aload_n 3), 1), (1936, (.iconst 0), 1), (1937, .laload, 1), (1938, (.iload 6), 2), (1940, .i2l, 1), (1941, .lcmp, 1)] : List (Nat × Instr × Nat)).all (fun q => decide (decode code q.1 = .ok q.2)) = true := by decide +kernel
theorem dL_1872 : dc code 1872 1873 (.aload_n 0) 1 := ⟨dr_at drL_law_1872 (i := 0) rfl, rfl⟩
theorem dL_1873 : dc code 1873 1875 (.iload 4) 2 := ⟨dr_at drL_law_1872 (i := 1) rfl, rfl⟩
theorem dL_1875 : dc code 1875 1876 (.iconst 2) 1 := ⟨dr_at drL_law_1872 (i := 2) rfl, rfl⟩
theorem dL_1876 : dc code 1876 1877 .iadd 1 := ⟨dr_at drL_law_1872 (i := 3) rfl, rfl⟩
theorem dL_1877 : dc code 1877 1878 .iaload 1 := ⟨dr_at drL_law_1872 (i := 4) rfl, rfl⟩
theorem dL_1878 : dc code 1878 1881 (.ifCond .eq 7) 3 := ⟨dr_at drL_law_1872 (i := 5) rfl, rfl⟩
theorem dL_1881 : dc code 1881 1882 (.iconst 1) 1 := ⟨dr_at drL_law_1872 (i := 6) rfl, rfl⟩
theorem dL_1882 : dc code 1882 1885 (.goto 4) 3 := ⟨dr_at drL_law_1872 (i := 7) rfl, rfl⟩
theorem dL_1885 : dc code 1885 1886 (.iconst 0) 1 := ⟨dr_at drL_law_1872 (i := 8) rfl, rfl⟩
theorem dL_1886 : dc code 1886 1889 (.invokevirtual 267) 3 := ⟨dr_at drL_law_1872 (i := 9) rfl, rfl⟩
theorem dL_1889 : dc code 1889 1891 (.istore 6) 2 := ⟨dr_at drL_law_1872 (i := 10) rfl, rfl⟩
theorem dL_1891 : dc code 1891 1894 (.goto 108) 3 := ⟨dr_at drL_law_1872 (i := 11) rfl, rfl⟩
theorem dL_1894 : dc code 1894 1895 (.aload_n 1) 1 := ⟨dr_at drL_law_1872 (i := 12) rfl, rfl⟩
theorem dL_1895 : dc code 1895 1896 (.aload_n 0) 1 := ⟨dr_at drL_law_1872 (i := 13) rfl, rfl⟩
theorem dL_1896 : dc code 1896 1898 (.iload 4) 2 := ⟨dr_at drL_law_1872 (i := 14) rfl, rfl⟩
theorem dL_1898 : dc code 1898 1899 (.iconst 1) 1 := ⟨dr_at drL_law_1872 (i := 15) rfl, rfl⟩
theorem dL_1899 : dc code 1899 1900 .iadd 1 := ⟨dr_at drL_law_1872 (i := 16) rfl, rfl⟩
theorem dL_1900 : dc code 1900 1901 .iaload 1 := ⟨dr_at drL_law_1872 (i := 17) rfl, rfl⟩
theorem dL_1901 : dc code 1901 1902 (.aload_n 3) 1 := ⟨dr_at drL_law_1872 (i := 18) rfl, rfl⟩
theorem dL_1902 : dc code 1902 1905 (.invokestatic 268) 3 := ⟨dr_at drL_law_1872 (i := 19) rfl, rfl⟩
theorem dL_1905 : dc code 1905 1907 (.istore 5) 2 := ⟨dr_at drL_law_1872 (i := 20) rfl, rfl⟩
theorem dL_1907 : dc code 1907 1908 (.aload_n 2) 1 := ⟨dr_at drL_law_1872 (i := 21) rfl, rfl⟩
theorem dL_1908 : dc code 1908 1909 (.aload_n 0) 1 := ⟨dr_at drL_law_1872 (i := 22) rfl, rfl⟩
theorem dL_1909 : dc code 1909 1911 (.iload 4) 2 := ⟨dr_at drL_law_1872 (i := 23) rfl, rfl⟩
theorem dL_1911 : dc code 1911 1912 (.iconst 1) 1 := ⟨dr_at drL_law_1872 (i := 24) rfl, rfl⟩
theorem dL_1912 : dc code 1912 1913 .iadd 1 := ⟨dr_at drL_law_1872 (i := 25) rfl, rfl⟩
theorem dL_1913 : dc code 1913 1914 .iaload 1 := ⟨dr_at drL_law_1872 (i := 26) rfl, rfl⟩
theorem dL_1914 : dc code 1914 1917 (.invokevirtual 270) 3 := ⟨dr_at drL_law_1872 (i := 27) rfl, rfl⟩
theorem dL_1917 : dc code 1917 1919 (.istore 6) 2 := ⟨dr_at drL_law_1872 (i := 28) rfl, rfl⟩
theorem dL_1919 : dc code 1919 1920 (.aload_n 2) 1 := ⟨dr_at drL_law_1872 (i := 29) rfl, rfl⟩
theorem dL_1920 : dc code 1920 1923 (.invokevirtual 271) 3 := ⟨dr_at drL_law_1872 (i := 30) rfl, rfl⟩
theorem dL_1923 : dc code 1923 1925 (.iload 5) 2 := ⟨dr_at drL_law_1872 (i := 31) rfl, rfl⟩
theorem dL_1925 : dc code 1925 1928 (.if_icmp .eq 5) 3 := ⟨dr_at drL_law_1872 (i := 32) rfl, rfl⟩
theorem dL_1928 : dc code 1928 1929 (.iconst 0) 1 := ⟨dr_at drL_law_1872 (i := 33) rfl, rfl⟩
theorem dL_1930 : dc code 1930 1932 (.iload 5) 2 := ⟨dr_at drL_law_1872 (i := 34) rfl, rfl⟩
theorem dL_1932 : dc code 1932 1935 (.ifCond .ne 15) 3 := ⟨dr_at drL_law_1872 (i := 35) rfl, rfl⟩
theorem dL_1935 : dc code 1935 1936 (.aload_n 3) 1 := ⟨dr_at drL_law_1872 (i := 36) rfl, rfl⟩
theorem dL_1936 : dc code 1936 1937 (.iconst 0) 1 := ⟨dr_at drL_law_1872 (i := 37) rfl, rfl⟩
theorem dL_1937 : dc code 1937 1938 .laload 1 := ⟨dr_at drL_law_1872 (i := 38) rfl, rfl⟩
theorem dL_1938 : dc code 1938 1940 (.iload 6) 2 := ⟨dr_at drL_law_1872 (i := 39) rfl, rfl⟩
theorem dL_1940 : dc code 1940 1941 .i2l 1 := ⟨dr_at drL_law_1872 (i := 40) rfl, rfl⟩
theorem dL_1941 : dc code 1941 1942 .lcmp 1 := ⟨dr_at drL_law_1872 (i := 41) rfl, rfl⟩
theorem drL_law_1942 : ([(1942, (.ifCond .eq 5), 3), (1945, (.iconst 0), 1), (1947, (.goto 52), 3), (1950, (.aload_n 1), 1), (1951, (.invokevirtual 274), 3), (1954, (.aload_n 2), 1), (1955, (.invokevirtual 277), 3), (1958, (.goto 41), 3), (1961, (.aload_n 1), 1), (1962, (.invokevirtual 278), 3), (1965, .pop, 1), (1966, (.aload_n 2), 1), (1967, (.invokevirtual 282), 3), (1970, .pop, 1), (1971, (.goto 28), 3), (1974, (.aload_n 1), 1), (1975, (.aload_n 0), 1), (1976, (.iload 4), 2), (1978, (.iconst 1), 1), (1979, .iadd, 1), (1980, .iaload, 1), (1981, (.invokevirtual 283), 3), (1984, .pop, 1), (1985, (.aload_n 2), 1), (1986, (.aload_n 0), 1), (1987, (.iload 4), 2), (1989, (.iconst 1), 1), (1990, .iadd, 1), (1991, .iaload, 1), (1992, (.invokevirtual 286), 3), (1995, .pop, 1), (1996, (.goto 3), 3), (1999, (.iinc 4 7), 3), (2002, (.goto (-1979)), 3), (2005, (.iconst 1), 1), (2006, .ireturn, 1)] : List (Nat × Instr × Nat)).all (fun q => decide (decode code q.1 = .ok q.2)) = true := by decide +kernel
theorem dL_1942 : dc code 1942 1945 (.ifCond .eq 5) 3 := ⟨dr_at drL_law_1942 (i := 0) rfl, rfl⟩
theorem dL_1945 : dc code 1945 1946 (.iconst 0) 1 := ⟨dr_at drL_law_1942 (i := 1) rfl, rfl⟩
theorem dL_1947 : dc code 1947 1950 (.goto 52) 3 := ⟨dr_at drL_law_1942 (i := 2) rfl, rfl⟩
theorem dL_1950 : dc code 1950 1951 (.aload_n 1) 1 := ⟨dr_at drL_law_1942 (i := 3) rfl, rfl⟩
theorem dL_1951 : dc code 1951 1954 (.invokevirtual 274) 3 := ⟨dr_at drL_law_1942 (i := 4) rfl, rfl⟩
theorem dL_1954 : dc code 1954 1955 (.aload_n 2) 1 := ⟨dr_at drL_law_1942 (i := 5) rfl, rfl⟩
theorem dL_1955 : dc code 1955 1958 (.invokevirtual 277) 3 := ⟨dr_at drL_law_1942 (i := 6) rfl, rfl⟩
theorem dL_1958 : dc code 1958 1961 (.goto 41) 3 := ⟨dr_at drL_law_1942 (i := 7) rfl, rfl⟩
theorem dL_1961 : dc code 1961 1962 (.aload_n 1) 1 := ⟨dr_at drL_law_1942 (i := 8) rfl, rfl⟩
theorem dL_1962 : dc code 1962 1965 (.invokevirtual 278) 3 := ⟨dr_at drL_law_1942 (i := 9) rfl, rfl⟩
theorem dL_1965 : dc code 1965 1966 .pop 1 := ⟨dr_at drL_law_1942 (i := 10) rfl, rfl⟩
theorem dL_1966 : dc code 1966 1967 (.aload_n 2) 1 := ⟨dr_at drL_law_1942 (i := 11) rfl, rfl⟩
theorem dL_1967 : dc code 1967 1970 (.invokevirtual 282) 3 := ⟨dr_at drL_law_1942 (i := 12) rfl, rfl⟩
theorem dL_1970 : dc code 1970 1971 .pop 1 := ⟨dr_at drL_law_1942 (i := 13) rfl, rfl⟩
theorem dL_1971 : dc code 1971 1974 (.goto 28) 3 := ⟨dr_at drL_law_1942 (i := 14) rfl, rfl⟩
theorem dL_1974 : dc code 1974 1975 (.aload_n 1) 1 := ⟨dr_at drL_law_1942 (i := 15) rfl, rfl⟩
theorem dL_1975 : dc code 1975 1976 (.aload_n 0) 1 := ⟨dr_at drL_law_1942 (i := 16) rfl, rfl⟩
theorem dL_1976 : dc code 1976 1978 (.iload 4) 2 := ⟨dr_at drL_law_1942 (i := 17) rfl, rfl⟩
theorem dL_1978 : dc code 1978 1979 (.iconst 1) 1 := ⟨dr_at drL_law_1942 (i := 18) rfl, rfl⟩
theorem dL_1979 : dc code 1979 1980 .iadd 1 := ⟨dr_at drL_law_1942 (i := 19) rfl, rfl⟩
theorem dL_1980 : dc code 1980 1981 .iaload 1 := ⟨dr_at drL_law_1942 (i := 20) rfl, rfl⟩
theorem dL_1981 : dc code 1981 1984 (.invokevirtual 283) 3 := ⟨dr_at drL_law_1942 (i := 21) rfl, rfl⟩
theorem dL_1984 : dc code 1984 1985 .pop 1 := ⟨dr_at drL_law_1942 (i := 22) rfl, rfl⟩
theorem dL_1985 : dc code 1985 1986 (.aload_n 2) 1 := ⟨dr_at drL_law_1942 (i := 23) rfl, rfl⟩
theorem dL_1986 : dc code 1986 1987 (.aload_n 0) 1 := ⟨dr_at drL_law_1942 (i := 24) rfl, rfl⟩
theorem dL_1987 : dc code 1987 1989 (.iload 4) 2 := ⟨dr_at drL_law_1942 (i := 25) rfl, rfl⟩
theorem dL_1989 : dc code 1989 1990 (.iconst 1) 1 := ⟨dr_at drL_law_1942 (i := 26) rfl, rfl⟩
theorem dL_1990 : dc code 1990 1991 .iadd 1 := ⟨dr_at drL_law_1942 (i := 27) rfl, rfl⟩
theorem dL_1991 : dc code 1991 1992 .iaload 1 := ⟨dr_at drL_law_1942 (i := 28) rfl, rfl⟩
theorem dL_1992 : dc code 1992 1995 (.invokevirtual 286) 3 := ⟨dr_at drL_law_1942 (i := 29) rfl, rfl⟩
theorem dL_1995 : dc code 1995 1996 .pop 1 := ⟨dr_at drL_law_1942 (i := 30) rfl, rfl⟩
theorem dL_1996 : dc code 1996 1999 (.goto 3) 3 := ⟨dr_at drL_law_1942 (i := 31) rfl, rfl⟩
theorem dL_1999 : dc code 1999 2002 (.iinc 4 7) 3 := ⟨dr_at drL_law_1942 (i := 32) rfl, rfl⟩
theorem dL_2002 : dc code 2002 2005 (.goto (-1979)) 3 := ⟨dr_at drL_law_1942 (i := 33) rfl, rfl⟩
theorem dL_2005 : dc code 2005 2006 (.iconst 1) 1 := ⟨dr_at drL_law_1942 (i := 34) rfl, rfl⟩
theorem dL_2006 : dc code 2006 2007 .ireturn 1 := ⟨dr_at drL_law_1942 (i := 35) rfl, rfl⟩
