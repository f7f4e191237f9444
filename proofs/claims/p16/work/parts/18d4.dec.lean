theorem drL_law_1601 : ([(1601, .iadd, 1), (1602, .iaload, 1), (1603, (.invokestatic 244), 3), (1606, (.istore 5), 2), (1608, (.aload_n 2), 1), (1609, (.aload_n 0), 1), (1610, (.iload 4), 2), (1612, (.iconst 1), 1), (1613, .iadd, 1), (1614, .iaload, 1), (1615, (.invokevirtual 246), 3), (1618, (.goto 380), 3), (1621, (.aload_n 1), 1), (1622, (.aload_n 0), 1), (1623, (.iload 4), 2), (1625, (.iconst 1), 1), (1626, .iadd, 1), (1627, .iaload, 1), (1628, (.aload_n 0), 1), (1629, (.iload 4), 2), (1631, (.iconst 2), 1), (1632, .iadd, 1), (1633, .iaload, 1), (1634, (.aload_n 3), 1), (1635, (.invokestatic 247), 3), (1638, (.istore 5), 2), (1640, (.aload_n 2), 1), (1641, (.aload_n 0), 1), (1642, (.iload 4), 2), (1644, (.iconst 1), 1), (1645, .iadd, 1), (1646, .iaload, 1), (1647, (.aload_n 0), 1), (1648, (.iload 4), 2), (1650, (.iconst 2), 1), (1651, .iadd, 1), (1652, .iaload, 1), (1653, (.invokevirtual 249), 3), (1656, (.istore 6), 2), (1658, (.goto 340), 3), (1661, (.aload_n 1), 1), (1662, (.aload_n 0), 1), (1663, (.iload 4), 2), (1665, (.iconst 1), 1), (1666, .iadd, 1), (1667, .iaload, 1), (1668, (.aload_n 3), 1), (1669, (.invokestatic 250), 3), (1672, (.istore 5), 2)] : List (Nat × Instr × Nat)).all (fun q => decide (decode code q.1 = .ok q.2)) = true := by decide +kernel
theorem dL_1601 : dc code 1601 1602 .iadd 1 := ⟨dr_at drL_law_1601 (i := 0) rfl, rfl⟩
theorem dL_1602 : dc code 1602 1603 .iaload 1 := ⟨dr_at drL_law_1601 (i := 1) rfl, rfl⟩
theorem dL_1603 : dc code 1603 1606 (.invokestatic 244) 3 := ⟨dr_at drL_law_1601 (i := 2) rfl, rfl⟩
theorem dL_1606 : dc code 1606 1608 (.istore 5) 2 := ⟨dr_at drL_law_1601 (i := 3) rfl, rfl⟩
theorem dL_1608 : dc code 1608 1609 (.aload_n 2) 1 := ⟨dr_at drL_law_1601 (i := 4) rfl, rfl⟩
theorem dL_1609 : dc code 1609 1610 (.aload_n 0) 1 := ⟨dr_at drL_law_1601 (i := 5) rfl, rfl⟩
theorem dL_1610 : dc code 1610 1612 (.iload 4) 2 := ⟨dr_at drL_law_1601 (i := 6) rfl, rfl⟩
theorem dL_1612 : dc code 1612 1613 (.iconst 1) 1 := ⟨dr_at drL_law_1601 (i := 7) rfl, rfl⟩
theorem dL_1613 : dc code 1613 1614 .iadd 1 := ⟨dr_at drL_law_1601 (i := 8) rfl, rfl⟩
theorem dL_1614 : dc code 1614 1615 .iaload 1 := ⟨dr_at drL_law_1601 (i := 9) rfl, rfl⟩
theorem dL_1615 : dc code 1615 1618 (.invokevirtual 246) 3 := ⟨dr_at drL_law_1601 (i := 10) rfl, rfl⟩
theorem dL_1618 : dc code 1618 1621 (.goto 380) 3 := ⟨dr_at drL_law_1601 (i := 11) rfl, rfl⟩
theorem dL_1621 : dc code 1621 1622 (.aload_n 1) 1 := ⟨dr_at drL_law_1601 (i := 12) rfl, rfl⟩
theorem dL_1622 : dc code 1622 1623 (.aload_n 0) 1 := ⟨dr_at drL_law_1601 (i := 13) rfl, rfl⟩
theorem dL_1623 : dc code 1623 1625 (.iload 4) 2 := ⟨dr_at drL_law_1601 (i := 14) rfl, rfl⟩
theorem dL_1625 : dc code 1625 1626 (.iconst 1) 1 := ⟨dr_at drL_law_1601 (i := 15) rfl, rfl⟩
theorem dL_1626 : dc code 1626 1627 .iadd 1 := ⟨dr_at drL_law_1601 (i := 16) rfl, rfl⟩
theorem dL_1627 : dc code 1627 1628 .iaload 1 := ⟨dr_at drL_law_1601 (i := 17) rfl, rfl⟩
theorem dL_1628 : dc code 1628 1629 (.aload_n 0) 1 := ⟨dr_at drL_law_1601 (i := 18) rfl, rfl⟩
theorem dL_1629 : dc code 1629 1631 (.iload 4) 2 := ⟨dr_at drL_law_1601 (i := 19) rfl, rfl⟩
theorem dL_1631 : dc code 1631 1632 (.iconst 2) 1 := ⟨dr_at drL_law_1601 (i := 20) rfl, rfl⟩
theorem dL_1632 : dc code 1632 1633 .iadd 1 := ⟨dr_at drL_law_1601 (i := 21) rfl, rfl⟩
theorem dL_1633 : dc code 1633 1634 .iaload 1 := ⟨dr_at drL_law_1601 (i := 22) rfl, rfl⟩
theorem dL_1634 : dc code 1634 1635 (.aload_n 3) 1 := ⟨dr_at drL_law_1601 (i := 23) rfl, rfl⟩
theorem dL_1635 : dc code 1635 1638 (.invokestatic 247) 3 := ⟨dr_at drL_law_1601 (i := 24) rfl, rfl⟩
theorem dL_1638 : dc code 1638 1640 (.istore 5) 2 := ⟨dr_at drL_law_1601 (i := 25) rfl, rfl⟩
theorem dL_1640 : dc code 1640 1641 (.aload_n 2) 1 := ⟨dr_at drL_law_1601 (i := 26) rfl, rfl⟩
theorem dL_1641 : dc code 1641 1642 (.aload_n 0) 1 := ⟨dr_at drL_law_1601 (i := 27) rfl, rfl⟩
theorem dL_1642 : dc code 1642 1644 (.iload 4) 2 := ⟨dr_at drL_law_1601 (i := 28) rfl, rfl⟩
theorem dL_1644 : dc code 1644 1645 (.iconst 1) 1 := ⟨dr_at drL_law_1601 (i := 29) rfl, rfl⟩
theorem dL_1645 : dc code 1645 1646 .iadd 1 := ⟨dr_at drL_law_1601 (i := 30) rfl, rfl⟩
theorem dL_1646 : dc code 1646 1647 .iaload 1 := ⟨dr_at drL_law_1601 (i := 31) rfl, rfl⟩
theorem dL_1647 : dc code 1647 1648 (.aload_n 0) 1 := ⟨dr_at drL_law_1601 (i := 32) rfl, rfl⟩
theorem dL_1648 : dc code 1648 1650 (.iload 4) 2 := ⟨dr_at drL_law_1601 (i := 33) rfl, rfl⟩
theorem dL_1650 : dc code 1650 1651 (.iconst 2) 1 := ⟨dr_at drL_law_1601 (i := 34) rfl, rfl⟩
theorem dL_1651 : dc code 1651 1652 .iadd 1 := ⟨dr_at drL_law_1601 (i := 35) rfl, rfl⟩
theorem dL_1652 : dc code 1652 1653 .iaload 1 := ⟨dr_at drL_law_1601 (i := 36) rfl, rfl⟩
theorem dL_1653 : dc code 1653 1656 (.invokevirtual 249) 3 := ⟨dr_at drL_law_1601 (i := 37) rfl, rfl⟩
theorem dL_1656 : dc code 1656 1658 (.istore 6) 2 := ⟨dr_at drL_law_1601 (i := 38) rfl, rfl⟩
theorem dL_1658 : dc code 1658 1661 (.goto 340) 3 := ⟨dr_at drL_law_1601 (i := 39) rfl, rfl⟩
theorem dL_1661 : dc code 1661 1662 (.aload_n 1) 1 := ⟨dr_at drL_law_1601 (i := 40) rfl, rfl⟩
theorem dL_1662 : dc code 1662 1663 (.aload_n 0) 1 := ⟨dr_at drL_law_1601 (i := 41) rfl, rfl⟩
theorem dL_1663 : dc code 1663 1665 (.iload 4) 2 := ⟨dr_at drL_law_1601 (i := 42) rfl, rfl⟩
theorem dL_1665 : dc code 1665 1666 (.iconst 1) 1 := ⟨dr_at drL_law_1601 (i := 43) rfl, rfl⟩
theorem dL_1666 : dc code 1666 1667 .iadd 1 := ⟨dr_at drL_law_1601 (i := 44) rfl, rfl⟩
theorem dL_1667 : dc code 1667 1668 .iaload 1 := ⟨dr_at drL_law_1601 (i := 45) rfl, rfl⟩
theorem dL_1668 : dc code 1668 1669 (.aload_n 3) 1 := ⟨dr_at drL_law_1601 (i := 46) rfl, rfl⟩
theorem dL_1669 : dc code 1669 1672 (.invokestatic 250) 3 := ⟨dr_at drL_law_1601 (i := 47) rfl, rfl⟩
theorem dL_1672 : dc code 1672 1674 (.istore 5) 2 := ⟨dr_at drL_law_1601 (i := 48) rfl, rfl⟩
theorem drL_law_1674 : ([(1674, (.aload_n 2), 1), (1675, (.aload_n 0), 1), (1676, (.iload 4), 2), (1678, (.iconst 1), 1), (1679, .iadd, 1), (1680, .iaload, 1), (1681, (.invokevirtual 252), 3), (1684, (.istore 6), 2), (1686, (.goto 312), 3), (1689, (.aload_n 1), 1), (1690, (.aload_n 0), 1), (1691, (.iload 4), 2), (1693, (.iconst 1), 1), (1694, .iadd, 1), (1695, .iaload, 1), (1696, (.aload_n 3), 1), (1697, (.invokestatic 253), 3), (1700, (.istore 5), 2), (1702, (.aload_n 2), 1), (1703, (.aload_n 0), 1), (1704, (.iload 4), 2), (1706, (.iconst 1), 1), (1707, .iadd, 1), (1708, .iaload, 1), (1709, (.invokevirtual 255), 3), (1712, (.istore 6), 2), (1714, (.goto 284), 3), (1717, (.aload_n 1), 1), (1718, (.aload_n 0), 1), (1719, (.iload 4), 2), (1721, (.iconst 1), 1), (1722, .iadd, 1), (1723, .iaload, 1), (1724, (.aload_n 3), 1), (1725, (.invokestatic 256), 3), (1728, (.istore 5), 2), (1730, (.aload_n 2), 1), (1731, (.aload_n 0), 1), (1732, (.iload 4), 2), (1734, (.iconst 1), 1), (1735, .iadd, 1), (1736, .iaload, 1), (1737, (.invokevirtual 258), 3), (1740, (.istore 6), 2), (1742, (.goto 256), 3), (1745, (.aload_n 1), 1), (1746, (.aload_n 0), 1)] : List (Nat × Instr × Nat)).all (fun q => decide (decode code q.1 = .ok q.2)) = true := by decide +kernel
theorem dL_1674 : dc code 1674 1675 (.aload_n 2) 1 := ⟨dr_at drL_law_1674 (i := 0) rfl, rfl⟩
theorem dL_1675 : dc code 1675 1676 (.aload_n 0) 1 := ⟨dr_at drL_law_1674 (i := 1) rfl, rfl⟩
theorem dL_1676 : dc code 1676 1678 (.iload 4) 2 := ⟨dr_at drL_law_1674 (i := 2) rfl, rfl⟩
theorem dL_1678 : dc code 1678 1679 (.iconst 1) 1 := ⟨dr_at drL_law_1674 (i := 3) rfl, rfl⟩
theorem dL_1679 : dc code 1679 1680 .iadd 1 := ⟨dr_at drL_law_1674 (i := 4) rfl, rfl⟩
theorem dL_1680 : dc code 1680 1681 .iaload 1 := ⟨dr_at drL_law_1674 (i := 5) rfl, rfl⟩
theorem dL_1681 : dc code 1681 1684 (.invokevirtual 252) 3 := ⟨dr_at drL_law_1674 (i := 6) rfl, rfl⟩
theorem dL_1684 : dc code 1684 1686 (.istore 6) 2 := ⟨dr_at drL_law_1674 (i := 7) rfl, rfl⟩
theorem dL_1686 : dc code 1686 1689 (.goto 312) 3 := ⟨dr_at drL_law_1674 (i := 8) rfl, rfl⟩
theorem dL_1689 : dc code 1689 1690 (.aload_n 1) 1 := ⟨dr_at drL_law_1674 (i := 9) rfl, rfl⟩
theorem dL_1690 : dc code 1690 1691 (.aload_n 0) 1 := ⟨dr_at drL_law_1674 (i := 10) rfl, rfl⟩
theorem dL_1691 : dc code 1691 1693 (.iload 4) 2 := ⟨dr_at drL_law_1674 (i := 11) rfl, rfl⟩
theorem dL_1693 : dc code 1693 1694 (.iconst 1) 1 := ⟨dr_at drL_law_1674 (i := 12) rfl, rfl⟩
theorem dL_1694 : dc code 1694 1695 .iadd 1 := ⟨dr_at drL_law_1674 (i := 13) rfl, rfl⟩
theorem dL_1695 : dc code 1695 1696 .iaload 1 := ⟨dr_at drL_law_1674 (i := 14) rfl, rfl⟩
theorem dL_1696 : dc code 1696 1697 (.aload_n 3) 1 := ⟨dr_at drL_law_1674 (i := 15) rfl, rfl⟩
theorem dL_1697 : dc code 1697 1700 (.invokestatic 253) 3 := ⟨dr_at drL_law_1674 (i := 16) rfl, rfl⟩
theorem dL_1700 : dc code 1700 1702 (.istore 5) 2 := ⟨dr_at drL_law_1674 (i := 17) rfl, rfl⟩
theorem dL_1702 : dc code 1702 1703 (.aload_n 2) 1 := ⟨dr_at drL_law_1674 (i := 18) rfl, rfl⟩
theorem dL_1703 : dc code 1703 1704 (.aload_n 0) 1 := ⟨dr_at drL_law_1674 (i := 19) rfl, rfl⟩
theorem dL_1704 : dc code 1704 1706 (.iload 4) 2 := ⟨dr_at drL_law_1674 (i := 20) rfl, rfl⟩
theorem dL_1706 : dc code 1706 1707 (.iconst 1) 1 := ⟨dr_at drL_law_1674 (i := 21) rfl, rfl⟩
theorem dL_1707 : dc code 1707 1708 .iadd 1 := ⟨dr_at drL_law_1674 (i := 22) rfl, rfl⟩
theorem dL_1708 : dc code 1708 1709 .iaload 1 := ⟨dr_at drL_law_1674 (i := 23) rfl, rfl⟩
theorem dL_1709 : dc code 1709 1712 (.invokevirtual 255) 3 := ⟨dr_at drL_law_1674 (i := 24) rfl, rfl⟩
theorem dL_1712 : dc code 1712 1714 (.istore 6) 2 := ⟨dr_at drL_law_1674 (i := 25) rfl, rfl⟩
theorem dL_1714 : dc code 1714 1717 (.goto 284) 3 := ⟨dr_at drL_law_1674 (i := 26) rfl, rfl⟩
theorem dL_1717 : dc code 1717 1718 (.aload_n 1) 1 := ⟨dr_at drL_law_1674 (i := 27) rfl, rfl⟩
theorem dL_1718 : dc code 1718 1719 (.aload_n 0) 1 := ⟨dr_at drL_law_1674 (i := 28) rfl, rfl⟩
theorem dL_1719 : dc code 1719 1721 (.iload 4) 2 := ⟨dr_at drL_law_1674 (i := 29) rfl, rfl⟩
theorem dL_1721 : dc code 1721 1722 (.iconst 1) 1 := ⟨dr_at drL_law_1674 (i := 30) rfl, rfl⟩
theorem dL_1722 : dc code 1722 1723 .iadd 1 := ⟨dr_at drL_law_1674 (i := 31) rfl, rfl⟩
theorem dL_1723 : dc code 1723 1724 .iaload 1 := ⟨dr_at drL_law_1674 (i := 32) rfl, rfl⟩
theorem dL_1724 : dc code 1724 1725 (.aload_n 3) 1 := ⟨dr_at drL_law_1674 (i := 33) rfl, rfl⟩
theorem dL_1725 : dc code 1725 1728 (.invokestatic 256) 3 := ⟨dr_at drL_law_1674 (i := 34) rfl, rfl⟩
theorem dL_1728 : dc code 1728 1730 (.istore 5) 2 := ⟨dr_at drL_law_1674 (i := 35) rfl, rfl⟩
theorem dL_1730 : dc code 1730 1731 (.aload_n 2) 1 := ⟨dr_at drL_law_1674 (i := 36) rfl, rfl⟩
theorem dL_1731 : dc code 1731 1732 (.aload_n 0) 1 := ⟨dr_at drL_law_1674 (i := 37) rfl, rfl⟩
theorem dL_1732 : dc code 1732 1734 (.iload 4) 2 := ⟨dr_at drL_law_1674 (i := 38) rfl, rfl⟩
theorem dL_1734 : dc code 1734 1735 (.iconst 1) 1 := ⟨dr_at drL_law_1674 (i := 39) rfl, rfl⟩
theorem dL_1735 : dc code 1735 1736 .iadd 1 := ⟨dr_at drL_law_1674 (i := 40) rfl, rfl⟩
theorem dL_1736 : dc code 1736 1737 .iaload 1 := ⟨dr_at drL_law_1674 (i := 41) rfl, rfl⟩
theorem dL_1737 : dc code 1737 1740 (.invokevirtual 258) 3 := ⟨dr_at drL_law_1674 (i := 42) rfl, rfl⟩
theorem dL_1740 : dc code 1740 1742 (.istore 6) 2 := ⟨dr_at drL_law_1674 (i := 43) rfl, rfl⟩
theorem dL_1742 : dc code 1742 1745 (.goto 256) 3 := ⟨dr_at drL_law_1674 (i := 44) rfl, rfl⟩
theorem dL_1745 : dc code 1745 1746 (.aload_n 1) 1 := ⟨dr_at drL_law_1674 (i := 45) rfl, rfl⟩
theorem dL_1746 : dc code 1746 1747 (.aload_n 0) 1 := ⟨dr_at drL_law_1674 (i := 46) rfl, rfl⟩
theorem drL_law_1747 : ([(1747, (.iload 4), 2), (1749, (.iconst 1), 1), (1750, .iadd, 1), (1751, .iaload, 1), (1752, (.aload_n 0), 1), (1753, (.iload 4), 2), (1755, (.iconst 2), 1), (1756, .iadd, 1), (1757, .iaload, 1), (1758, (.aload_n 3), 1), (1759, (.invokestatic 259), 3), (1762, (.istore 5), 2), (1764, (.aload_n 2), 1), (1765, (.aload_n 0), 1), (1766, (.iload 4), 2), (1768, (.iconst 1), 1), (1769, .iadd, 1), (1770, .iaload, 1), (1771, (.aload_n 0), 1), (1772, (.iload 4), 2), (1774, (.iconst 2), 1), (1775, .iadd, 1), (1776, .iaload, 1), (1777, (.invokevirtual 261), 3), (1780, (.istore 6), 2), (1782, (.goto 216), 3), (1785, (.aload_n 1), 1), (1786, (.aload_n 0), 1), (1787, (.iload 4), 2), (1789, (.iconst 1), 1), (1790, .iadd, 1), (1791, .iaload, 1), (1792, (.aload_n 0), 1), (1793, (.iload 4), 2), (1795, (.iconst 2), 1), (1796, .iadd, 1), (1797, .iaload, 1), (1798, (.aload_n 3), 1), (1799, (.invokestatic 262), 3), (1802, (.istore 5), 2), (1804, (.aload_n 2), 1), (1805, (.aload_n 0), 1), (1806, (.iload 4), 2), (1808, (.iconst 1), 1), (1809, .iadd, 1)] : List (Nat × Instr × Nat)).all (fun q => decide (decode code q.1 = .ok q.2)) = true := by decide +kernel
theorem dL_1747 : dc code 1747 1749 (.iload 4) 2 := ⟨dr_at drL_law_1747 (i := 0) rfl, rfl⟩
theorem dL_1749 : dc code 1749 1750 (.iconst 1) 1 := ⟨dr_at drL_law_1747 (i := 1) rfl, rfl⟩
theorem dL_1750 : dc code 1750 1751 .iadd 1 := ⟨dr_at drL_law_1747 (i := 2) rfl, rfl⟩
theorem dL_1751 : dc code 1751 1752 .iaload 1 := ⟨dr_at drL_law_1747 (i := 3) rfl, rfl⟩
theorem dL_1752 : dc code 1752 1753 (.aload_n 0) 1 := ⟨dr_at drL_law_1747 (i := 4) rfl, rfl⟩
theorem dL_1753 : dc code 1753 1755 (.iload 4) 2 := ⟨dr_at drL_law_1747 (i := 5) rfl, rfl⟩
theorem dL_1755 : dc code 1755 1756 (.iconst 2) 1 := ⟨dr_at drL_law_1747 (i := 6) rfl, rfl⟩
theorem dL_1756 : dc code 1756 1757 .iadd 1 := ⟨dr_at drL_law_1747 (i := 7) rfl, rfl⟩
theorem dL_1757 : dc code 1757 1758 .iaload 1 := ⟨dr_at drL_law_1747 (i := 8) rfl, rfl⟩
theorem dL_1758 : dc code 1758 1759 (.aload_n 3) 1 := ⟨dr_at drL_law_1747 (i := 9) rfl, rfl⟩
theorem dL_1759 : dc code 1759 1762 (.invokestatic 259) 3 := ⟨dr_at drL_law_1747 (i := 10) rfl, rfl⟩
theorem dL_1762 : dc code 1762 1764 (.istore 5) 2 := ⟨dr_at drL_law_1747 (i := 11) rfl, rfl⟩
theorem dL_1764 : dc code 1764 1765 (.aload_n 2) 1 := ⟨dr_at drL_law_1747 (i := 12) rfl, rfl⟩
theorem dL_1765 : dc code 1765 1766 (.aload_n 0) 1 := ⟨dr_at drL_law_1747 (i := 13) rfl, rfl⟩
theorem dL_1766 : dc code 1766 1768 (.iload 4) 2 := ⟨dr_at drL_law_1747 (i := 14) rfl, rfl⟩
theorem dL_1768 : dc code 1768 1769 (.iconst 1) 1 := ⟨dr_at drL_law_1747 (i := 15) rfl, rfl⟩
theorem dL_1769 : dc code 1769 1770 .iadd 1 := ⟨dr_at drL_law_1747 (i := 16) rfl, rfl⟩
theorem dL_1770 : dc code 1770 1771 .iaload 1 := ⟨dr_at drL_law_1747 (i := 17) rfl, rfl⟩
theorem dL_1771 : dc code 1771 1772 (.aload_n 0) 1 := ⟨dr_at drL_law_1747 (i := 18) rfl, rfl⟩
theorem dL_1772 : dc code 1772 1774 (.iload 4) 2 := ⟨dr_at drL_law_1747 (i := 19) rfl, rfl⟩
theorem dL_1774 : dc code 1774 1775 (.iconst 2) 1 := ⟨dr_at drL_law_1747 (i := 20) rfl, rfl⟩
theorem dL_1775 : dc code 1775 1776 .iadd 1 := ⟨dr_at drL_law_1747 (i := 21) rfl, rfl⟩
theorem dL_1776 : dc code 1776 1777 .iaload 1 := ⟨dr_at drL_law_1747 (i := 22) rfl, rfl⟩
theorem dL_1777 : dc code 1777 1780 (.invokevirtual 261) 3 := ⟨dr_at drL_law_1747 (i := 23) rfl, rfl⟩
theorem dL_1780 : dc code 1780 1782 (.istore 6) 2 := ⟨dr_at drL_law_1747 (i := 24) rfl, rfl⟩
theorem dL_1782 : dc code 1782 1785 (.goto 216) 3 := ⟨dr_at drL_law_1747 (i := 25) rfl, rfl⟩
theorem dL_1785 : dc code 1785 1786 (.aload_n 1) 1 := ⟨dr_at drL_law_1747 (i := 26) rfl, rfl⟩
theorem dL_1786 : dc code 1786 1787 (.aload_n 0) 1 := ⟨dr_at drL_law_1747 (i := 27) rfl, rfl⟩
theorem dL_1787 : dc code 1787 1789 (.iload 4) 2 := ⟨dr_at drL_law_1747 (i := 28) rfl, rfl⟩
theorem dL_1789 : dc code 1789 1790 (.iconst 1) 1 := ⟨dr_at drL_law_1747 (i := 29) rfl, rfl⟩
theorem dL_1790 : dc code 1790 1791 .iadd 1 := ⟨dr_at drL_law_1747 (i := 30) rfl, rfl⟩
theorem dL_1791 : dc code 1791 1792 .iaload 1 := ⟨dr_at drL_law_1747 (i := 31) rfl, rfl⟩
theorem dL_1792 : dc code 1792 1793 (.aload_n 0) 1 := ⟨dr_at drL_law_1747 (i := 32) rfl, rfl⟩
theorem dL_1793 : dc code 1793 1795 (.iload 4) 2 := ⟨dr_at drL_law_1747 (i := 33) rfl, rfl⟩
theorem dL_1795 : dc code 1795 1796 (.iconst 2) 1 := ⟨dr_at drL_law_1747 (i := 34) rfl, rfl⟩
theorem dL_1796 : dc code 1796 1797 .iadd 1 := ⟨dr_at drL_law_1747 (i := 35) rfl, rfl⟩
theorem dL_1797 : dc code 1797 1798 .iaload 1 := ⟨dr_at drL_law_1747 (i := 36) rfl, rfl⟩
theorem dL_1798 : dc code 1798 1799 (.aload_n 3) 1 := ⟨dr_at drL_law_1747 (i := 37) rfl, rfl⟩
theorem dL_1799 : dc code 1799 1802 (.invokestatic 262) 3 := ⟨dr_at drL_law_1747 (i := 38) rfl, rfl⟩
theorem dL_1802 : dc code 1802 1804 (.istore 5) 2 := ⟨dr_at drL_law_1747 (i := 39) rfl, rfl⟩
theorem dL_1804 : dc code 1804 1805 (.aload_n 2) 1 := ⟨dr_at drL_law_1747 (i := 40) rfl, rfl⟩
theorem dL_1805 : dc code 1805 1806 (.aload_n 0) 1 := ⟨dr_at drL_law_1747 (i := 41) rfl, rfl⟩
theorem dL_1806 : dc code 1806 1808 (.iload 4) 2 := ⟨dr_at drL_law_1747 (i := 42) rfl, rfl⟩
theorem dL_1808 : dc code 1808 1809 (.iconst 1) 1 := ⟨dr_at drL_law_1747 (i := 43) rfl, rfl⟩
theorem dL_1809 : dc code 1809 1810 .iadd 1 := ⟨dr_at drL_law_1747 (i := 44) rfl, rfl⟩
theorem drL_law_1810 : ([(1810, .iaload, 1), (1811, (.aload_n 0), 1), (1812, (.iload 4), 2), (1814, (.iconst 2), 1), (1815, .iadd, 1), (1816, .iaload, 1), (1817, (.invokevirtual 264), 3), (1820, (.istore 6), 2), (1822, (.goto 176), 3), (1825, (.aload_n 1), 1), (1826, (.aload_n 0), 1), (1827, (.iload 4), 2), (1829, (.iconst 1), 1), (1830, .iadd, 1), (1831, .iaload, 1), (1832, (.aload_n 0), 1), (1833, (.iload 4), 2), (1835, (.iconst 2), 1), (1836, .iadd, 1), (1837, .iaload, 1), (1838, (.aload_n 3), 1), (1839, (.invokestatic 265), 3), (1842, (.istore 5), 2), (1844, (.aload_n 2), 1), (1845, (.aload_n 0), 1), (1846, (.iload 4), 2), (1848, (.iconst 1), 1), (1849, .iadd, 1), (1850, .iaload, 1), (1851, (.aload_n 0), 1), (1852, (.iload 4), 2), (1854, (.iconst 2), 1), (1855, .iadd, 1), (1856, .iaload, 1), (1857, (.invokevirtual 267), 3), (1860, (.istore 6), 2), (1862, (.goto 136), 3), (1865, (.aload_n 1), 1), (1866, (.aload_n 0), 1), (1867, (.iload 4), 2), (1869, (.iconst 1), 1), (1870, .iadd, 1), (1871, .iaload, 1), (1872, (.aload_n 0), 1)] : List (Nat × Instr × Nat)).all (fun q => decide (decode code q.1 = .ok q.2)) = true := by decide +kernel
theorem dL_1810 : dc code 1810 1811 .iaload 1 := ⟨dr_at drL_law_1810 (i := 0) rfl, rfl⟩
theorem dL_1811 : dc code 1811 1812 (.aload_n 0) 1 := ⟨dr_at drL_law_1810 (i := 1) rfl, rfl⟩
theorem dL_1812 : dc code 1812 1814 (.iload 4) 2 := ⟨dr_at drL_law_1810 (i := 2) rfl, rfl⟩
theorem dL_1814 : dc code 1814 1815 (.iconst 2) 1 := ⟨dr_at drL_law_1810 (i := 3) rfl, rfl⟩
theorem dL_1815 : dc code 1815 1816 .iadd 1 := ⟨dr_at drL_law_1810 (i := 4) rfl, rfl⟩
theorem dL_1816 : dc code 1816 1817 .iaload 1 := ⟨dr_at drL_law_1810 (i := 5) rfl, rfl⟩
theorem dL_1817 : dc code 1817 1820 (.invokevirtual 264) 3 := ⟨dr_at drL_law_1810 (i := 6) rfl, rfl⟩
theorem dL_1820 : dc code 1820 1822 (.istore 6) 2 := ⟨dr_at drL_law_1810 (i := 7) rfl, rfl⟩
theorem dL_1822 : dc code 1822 1825 (.goto 176) 3 := ⟨dr_at drL_law_1810 (i := 8) rfl, rfl⟩
theorem dL_1825 : dc code 1825 1826 (.aload_n 1) 1 := ⟨dr_at drL_law_1810 (i := 9) rfl, rfl⟩
theorem dL_1826 : dc code 1826 1827 (.aload_n 0) 1 := ⟨dr_at drL_law_1810 (i := 10) rfl, rfl⟩
theorem dL_1827 : dc code 1827 1829 (.iload 4) 2 := ⟨dr_at drL_law_1810 (i := 11) rfl, rfl⟩
theorem dL_1829 : dc code 1829 1830 (.iconst 1) 1 := ⟨dr_at drL_law_1810 (i := 12) rfl, rfl⟩
theorem dL_1830 : dc code 1830 1831 .iadd 1 := ⟨dr_at drL_law_1810 (i := 13) rfl, rfl⟩
theorem dL_1831 : dc code 1831 1832 .iaload 1 := ⟨dr_at drL_law_1810 (i := 14) rfl, rfl⟩
theorem dL_1832 : dc code 1832 1833 (.aload_n 0) 1 := ⟨dr_at drL_law_1810 (i := 15) rfl, rfl⟩
theorem dL_1833 : dc code 1833 1835 (.iload 4) 2 := ⟨dr_at drL_law_1810 (i := 16) rfl, rfl⟩
theorem dL_1835 : dc code 1835 1836 (.iconst 2) 1 := ⟨dr_at drL_law_1810 (i := 17) rfl, rfl⟩
theorem dL_1836 : dc code 1836 1837 .iadd 1 := ⟨dr_at drL_law_1810 (i := 18) rfl, rfl⟩
theorem dL_1837 : dc code 1837 1838 .iaload 1 := ⟨dr_at drL_law_1810 (i := 19) rfl, rfl⟩
theorem dL_1838 : dc code 1838 1839 (.aload_n 3) 1 := ⟨dr_at drL_law_1810 (i := 20) rfl, rfl⟩
theorem dL_1839 : dc code 1839 1842 (.invokestatic 265) 3 := ⟨dr_at drL_law_1810 (i := 21) rfl, rfl⟩
theorem dL_1842 : dc code 1842 1844 (.istore 5) 2 := ⟨dr_at drL_law_1810 (i := 22) rfl, rfl⟩
theorem dL_1844 : dc code 1844 1845 (.aload_n 2) 1 := ⟨dr_at drL_law_1810 (i := 23) rfl, rfl⟩
theorem dL_1845 : dc code 1845 1846 (.aload_n 0) 1 := ⟨dr_at drL_law_1810 (i := 24) rfl, rfl⟩
theorem dL_1846 : dc code 1846 1848 (.iload 4) 2 := ⟨dr_at drL_law_1810 (i := 25) rfl, rfl⟩
theorem dL_1848 : dc code 1848 1849 (.iconst 1) 1 := ⟨dr_at drL_law_1810 (i := 26) rfl, rfl⟩
theorem dL_1849 : dc code 1849 1850 .iadd 1 := ⟨dr_at drL_law_1810 (i := 27) rfl, rfl⟩
theorem dL_1850 : dc code 1850 1851 .iaload 1 := ⟨dr_at drL_law_1810 (i := 28) rfl, rfl⟩
theorem dL_1851 : dc code 1851 1852 (.aload_n 0) 1 := ⟨dr_at drL_law_1810 (i := 29) rfl, rfl⟩
theorem dL_1852 : dc code 1852 1854 (.iload 4) 2 := ⟨dr_at drL_law_1810 (i := 30) rfl, rfl⟩
theorem dL_1854 : dc code 1854 1855 (.iconst 2) 1 := ⟨dr_at drL_law_1810 (i := 31) rfl, rfl⟩
theorem dL_1855 : dc code 1855 1856 .iadd 1 := ⟨dr_at drL_law_1810 (i := 32) rfl, rfl⟩
theorem dL_1856 : dc code 1856 1857 .iaload 1 := ⟨dr_at drL_law_1810 (i := 33) rfl, rfl⟩
theorem dL_1857 : dc code 1857 1860 (.invokevirtual 267) 3 := ⟨dr_at drL_law_1810 (i := 34) rfl, rfl⟩
theorem dL_1860 : dc code 1860 1862 (.istore 6) 2 := ⟨dr_at drL_law_1810 (i := 35) rfl, rfl⟩
theorem dL_1862 : dc code 1862 1865 (.goto 136) 3 := ⟨dr_at drL_law_1810 (i := 36) rfl, rfl⟩
theorem dL_1865 : dc code 1865 1866 (.aload_n 1) 1 := ⟨dr_at drL_law_1810 (i := 37) rfl, rfl⟩
theorem dL_1866 : dc code 1866 1867 (.aload_n 0) 1 := ⟨dr_at drL_law_1810 (i := 38) rfl, rfl⟩
theorem dL_1867 : dc code 1867 1869 (.iload 4) 2 := ⟨dr_at drL_law_1810 (i := 39) rfl, rfl⟩
theorem dL_1869 : dc code 1869 1870 (.iconst 1) 1 := ⟨dr_at drL_law_1810 (i := 40) rfl, rfl⟩
theorem dL_1870 : dc code 1870 1871 .iadd 1 := ⟨dr_at drL_law_1810 (i := 41) rfl, rfl⟩
theorem dL_1871 : dc code 1871 1872 .iaload 1 := ⟨dr_at drL_law_1810 (i := 42) rfl, rfl⟩
theorem dL_1872 : dc code 1872 1873 (.aload_n 0) 1 := ⟨dr_at drL_law_1810 (i := 43) rfl, rfl⟩
theorem drL_law_1873 : ([(1873, (.iload 4), 2), (1875, (.iconst 2), 1), (1876, .iadd, 1), (1877, .iaload, 1), (1878, (.ifCond .eq 7), 3), (1881, (.iconst 1), 1), (1882, (.goto 4), 3), (1885, (.iconst 0), 1), (1886, (.aload_n 3), 1), (1887, (.invokestatic 268), 3), (1890, (.istore 5), 2), (1892, (.aload_n 2), 1), (1893, (.aload_n 0), 1), (1894, (.iload 4), 2), (1896, (.iconst 1), 1), (1897, .iadd, 1), (1898, .iaload, 1), (1899, (.aload_n 0), 1), (1900, (.iload 4), 2), (1902, (.iconst 2), 1), (1903, .iadd, 1), (1904, .iaload, 1), (1905, (.ifCond .eq 7), 3), (1908, (.iconst 1), 1), (1909, (.goto 4), 3), (1912, (.iconst 0), 1), (1913, (.invokevirtual 270), 3), (1916, (.istore 6), 2), (1918, (.goto 80), 3), (1921, (.aload_n 1), 1), (1922, (.aload_n 0), 1), (1923, (.iload 4), 2), (1925, (.iconst 1), 1), (1926, .iadd, 1), (1927, .iaload, 1), (1928, (.aload_n 3), 1), (1929, (.invokestatic 271), 3), (1932, (.istore 5), 2), (1934, (.aload_n 2), 1), (1935, (.aload_n 0), 1), (1936, (.iload 4), 2), (1938, (.iconst 1), 1)] : List (Nat × Instr × Nat)).all (fun q => decide (decode code q.1 = .ok q.2)) = true := by decide +kernel
theorem dL_1873 : dc code 1873 1875 (.iload 4) 2 := ⟨dr_at drL_law_1873 (i := 0) rfl, rfl⟩
theorem dL_1875 : dc code 1875 1876 (.iconst 2) 1 := ⟨dr_at drL_law_1873 (i := 1) rfl, rfl⟩
theorem dL_1876 : dc code 1876 1877 .iadd 1 := ⟨dr_at drL_law_1873 (i := 2) rfl, rfl⟩
theorem dL_1877 : dc code 1877 1878 .iaload 1 := ⟨dr_at drL_law_1873 (i := 3) rfl, rfl⟩
theorem dL_1878 : dc code 1878 1881 (.ifCond .eq 7) 3 := ⟨dr_at drL_law_1873 (i := 4) rfl, rfl⟩
theorem dL_1881 : dc code 1881 1882 (.iconst 1) 1 := ⟨dr_at drL_law_1873 (i := 5) rfl, rfl⟩
theorem dL_1882 : dc code 1882 1885 (.goto 4) 3 := ⟨dr_at drL_law_1873 (i := 6) rfl, rfl⟩
theorem dL_1885 : dc code 1885 1886 (.iconst 0) 1 := ⟨dr_at drL_law_1873 (i := 7) rfl, rfl⟩
theorem dL_1886 : dc code 1886 1887 (.aload_n 3) 1 := ⟨dr_at drL_law_1873 (i := 8) rfl, rfl⟩
theorem dL_1887 : dc code 1887 1890 (.invokestatic 268) 3 := ⟨dr_at drL_law_1873 (i := 9) rfl, rfl⟩
theorem dL_1890 : dc code 1890 1892 (.istore 5) 2 := ⟨dr_at drL_law_1873 (i := 10) rfl, rfl⟩
theorem dL_1892 : dc code 1892 1893 (.aload_n 2) 1 := ⟨dr_at drL_law_1873 (i := 11) rfl, rfl⟩
theorem dL_1893 : dc code 1893 1894 (.aload_n 0) 1 := ⟨dr_at drL_law_1873 (i := 12) rfl, rfl⟩
theorem dL_1894 : dc code 1894 1896 (.iload 4) 2 := ⟨dr_at drL_law_1873 (i := 13) rfl, rfl⟩
theorem dL_1896 : dc code 1896 1897 (.iconst 1) 1 := ⟨dr_at drL_law_1873 (i := 14) rfl, rfl⟩
theorem dL_1897 : dc code 1897 1898 .iadd 1 := ⟨dr_at drL_law_1873 (i := 15) rfl, rfl⟩
theorem dL_1898 : dc code 1898 1899 .iaload 1 := ⟨dr_at drL_law_1873 (i := 16) rfl, rfl⟩
theorem dL_1899 : dc code 1899 1900 (.aload_n 0) 1 := ⟨dr_at drL_law_1873 (i := 17) rfl, rfl⟩
theorem dL_1900 : dc code 1900 1902 (.iload 4) 2 := ⟨dr_at drL_law_1873 (i := 18) rfl, rfl⟩
theorem dL_1902 : dc code 1902 1903 (.iconst 2) 1 := ⟨dr_at drL_law_1873 (i := 19) rfl, rfl⟩
theorem dL_1903 : dc code 1903 1904 .iadd 1 := ⟨dr_at drL_law_1873 (i := 20) rfl, rfl⟩
theorem dL_1904 : dc code 1904 1905 .iaload 1 := ⟨dr_at drL_law_1873 (i := 21) rfl, rfl⟩
theorem dL_1905 : dc code 1905 1908 (.ifCond .eq 7) 3 := ⟨dr_at drL_law_1873 (i := 22) rfl, rfl⟩
theorem dL_1908 : dc code 1908 1909 (.iconst 1) 1 := ⟨dr_at drL_law_1873 (i := 23) rfl, rfl⟩
theorem dL_1909 : dc code 1909 1912 (.goto 4) 3 := ⟨dr_at drL_law_1873 (i := 24) rfl, rfl⟩
theorem dL_1912 : dc code 1912 1913 (.iconst 0) 1 := ⟨dr_at drL_law_1873 (i := 25) rfl, rfl⟩
theorem dL_1913 : dc code 1913 1916 (.invokevirtual 270) 3 := ⟨dr_at drL_law_1873 (i := 26) rfl, rfl⟩
theorem dL_1916 : dc code 1916 1918 (.istore 6) 2 := ⟨dr_at drL_law_1873 (i := 27) rfl, rfl⟩
theorem dL_1918 : dc code 1918 1921 (.goto 80) 3 := ⟨dr_at drL_law_1873 (i := 28) rfl, rfl⟩
theorem dL_1921 : dc code 1921 1922 (.aload_n 1) 1 := ⟨dr_at drL_law_1873 (i := 29) rfl, rfl⟩
theorem dL_1922 : dc code 1922 1923 (.aload_n 0) 1 := ⟨dr_at drL_law_1873 (i := 30) rfl, rfl⟩
theorem dL_1923 : dc code 1923 1925 (.iload 4) 2 := ⟨dr_at drL_law_1873 (i := 31) rfl, rfl⟩
theorem dL_1925 : dc code 1925 1926 (.iconst 1) 1 := ⟨dr_at drL_law_1873 (i := 32) rfl, rfl⟩
theorem dL_1926 : dc code 1926 1927 .iadd 1 := ⟨dr_at drL_law_1873 (i := 33) rfl, rfl⟩
theorem dL_1927 : dc code 1927 1928 .iaload 1 := ⟨dr_at drL_law_1873 (i := 34) rfl, rfl⟩
theorem dL_1928 : dc code 1928 1929 (.aload_n 3) 1 := ⟨dr_at drL_law_1873 (i := 35) rfl, rfl⟩
theorem dL_1929 : dc code 1929 1932 (.invokestatic 271) 3 := ⟨dr_at drL_law_1873 (i := 36) rfl, rfl⟩
theorem dL_1932 : dc code 1932 1934 (.istore 5) 2 := ⟨dr_at drL_law_1873 (i := 37) rfl, rfl⟩
theorem dL_1934 : dc code 1934 1935 (.aload_n 2) 1 := ⟨dr_at drL_law_1873 (i := 38) rfl, rfl⟩
theorem dL_1935 : dc code 1935 1936 (.aload_n 0) 1 := ⟨dr_at drL_law_1873 (i := 39) rfl, rfl⟩
theorem dL_1936 : dc code 1936 1938 (.iload 4) 2 := ⟨dr_at drL_law_1873 (i := 40) rfl, rfl⟩
theorem dL_1938 : dc code 1938 1939 (.iconst 1) 1 := ⟨dr_at drL_law_1873 (i := 41) rfl, rfl⟩
theorem drL_law_1939 : ([(1939, .iadd, 1), (1940, .iaload, 1), (1941, (.invokevirtual 273), 3), (1944, (.istore 6), 2), (1946, (.goto 52), 3), (1949, (.aload_n 1), 1), (1950, (.invokevirtual 274), 3), (1953, (.aload_n 2), 1), (1954, (.invokevirtual 277), 3), (1957, (.goto 41), 3), (1960, (.aload_n 1), 1), (1961, (.invokevirtual 278), 3), (1964, .pop, 1), (1965, (.aload_n 2), 1), (1966, (.invokevirtual 282), 3), (1969, .pop, 1), (1970, (.goto 28), 3), (1973, (.aload_n 1), 1), (1974, (.aload_n 0), 1), (1975, (.iload 4), 2), (1977, (.iconst 1), 1), (1978, .iadd, 1), (1979, .iaload, 1), (1980, (.invokevirtual 283), 3), (1983, .pop, 1), (1984, (.aload_n 2), 1), (1985, (.aload_n 0), 1), (1986, (.iload 4), 2), (1988, (.iconst 1), 1), (1989, .iadd, 1), (1990, .iaload, 1), (1991, (.invokevirtual 286), 3), (1994, .pop, 1), (1995, (.goto 3), 3), (1998, (.iinc 4 7), 3), (2001, (.goto (-1978)), 3), (2004, (.iconst 1), 1), (2005, .ireturn, 1)] : List (Nat × Instr × Nat)).all (fun q => decide (decode code q.1 = .ok q.2)) = true := by decide +kernel
theorem dL_1939 : dc code 1939 1940 .iadd 1 := ⟨dr_at drL_law_1939 (i := 0) rfl, rfl⟩
theorem dL_1940 : dc code 1940 1941 .iaload 1 := ⟨dr_at drL_law_1939 (i := 1) rfl, rfl⟩
theorem dL_1941 : dc code 1941 1944 (.invokevirtual 273) 3 := ⟨dr_at drL_law_1939 (i := 2) rfl, rfl⟩
theorem dL_1944 : dc code 1944 1946 (.istore 6) 2 := ⟨dr_at drL_law_1939 (i := 3) rfl, rfl⟩
theorem dL_1946 : dc code 1946 1949 (.goto 52) 3 := ⟨dr_at drL_law_1939 (i := 4) rfl, rfl⟩
theorem dL_1949 : dc code 1949 1950 (.aload_n 1) 1 := ⟨dr_at drL_law_1939 (i := 5) rfl, rfl⟩
theorem dL_1950 : dc code 1950 1953 (.invokevirtual 274) 3 := ⟨dr_at drL_law_1939 (i := 6) rfl, rfl⟩
theorem dL_1953 : dc code 1953 1954 (.aload_n 2) 1 := ⟨dr_at drL_law_1939 (i := 7) rfl, rfl⟩
theorem dL_1954 : dc code 1954 1957 (.invokevirtual 277) 3 := ⟨dr_at drL_law_1939 (i := 8) rfl, rfl⟩
theorem dL_1957 : dc code 1957 1960 (.goto 41) 3 := ⟨dr_at drL_law_1939 (i := 9) rfl, rfl⟩
theorem dL_1960 : dc code 1960 1961 (.aload_n 1) 1 := ⟨dr_at drL_law_1939 (i := 10) rfl, rfl⟩
theorem dL_1961 : dc code 1961 1964 (.invokevirtual 278) 3 := ⟨dr_at drL_law_1939 (i := 11) rfl, rfl⟩
theorem dL_1964 : dc code 1964 1965 .pop 1 := ⟨dr_at drL_law_1939 (i := 12) rfl, rfl⟩
theorem dL_1965 : dc code 1965 1966 (.aload_n 2) 1 := ⟨dr_at drL_law_1939 (i := 13) rfl, rfl⟩
theorem dL_1966 : dc code 1966 1969 (.invokevirtual 282) 3 := ⟨dr_at drL_law_1939 (i := 14) rfl, rfl⟩
theorem dL_1969 : dc code 1969 1970 .pop 1 := ⟨dr_at drL_law_1939 (i := 15) rfl, rfl⟩
theorem dL_1970 : dc code 1970 1973 (.goto 28) 3 := ⟨dr_at drL_law_1939 (i := 16) rfl, rfl⟩
theorem dL_1973 : dc code 1973 1974 (.aload_n 1) 1 := ⟨dr_at drL_law_1939 (i := 17) rfl, rfl⟩
theorem dL_1974 : dc code 1974 1975 (.aload_n 0) 1 := ⟨dr_at drL_law_1939 (i := 18) rfl, rfl⟩
theorem dL_1975 : dc code 1975 1977 (.iload 4) 2 := ⟨dr_at drL_law_1939 (i := 19) rfl, rfl⟩
theorem dL_1977 : dc code 1977 1978 (.iconst 1) 1 := ⟨dr_at drL_law_1939 (i := 20) rfl, rfl⟩
theorem dL_1978 : dc code 1978 1979 .iadd 1 := ⟨dr_at drL_law_1939 (i := 21) rfl, rfl⟩
theorem dL_1979 : dc code 1979 1980 .iaload 1 := ⟨dr_at drL_law_1939 (i := 22) rfl, rfl⟩
theorem dL_1980 : dc code 1980 1983 (.invokevirtual 283) 3 := ⟨dr_at drL_law_1939 (i := 23) rfl, rfl⟩
theorem dL_1983 : dc code 1983 1984 .pop 1 := ⟨dr_at drL_law_1939 (i := 24) rfl, rfl⟩
theorem dL_1984 : dc code 1984 1985 (.aload_n 2) 1 := ⟨dr_at drL_law_1939 (i := 25) rfl, rfl⟩
theorem dL_1985 : dc code 1985 1986 (.aload_n 0) 1 := ⟨dr_at drL_law_1939 (i := 26) rfl, rfl⟩
theorem dL_1986 : dc code 1986 1988 (.iload 4) 2 := ⟨dr_at drL_law_1939 (i := 27) rfl, rfl⟩
theorem dL_1988 : dc code 1988 1989 (.iconst 1) 1 := ⟨dr_at drL_law_1939 (i := 28) rfl, rfl⟩
theorem dL_1989 : dc code 1989 1990 .iadd 1 := ⟨dr_at drL_law_1939 (i := 29) rfl, rfl⟩
theorem dL_1990 : dc code 1990 1991 .iaload 1 := ⟨dr_at drL_law_1939 (i := 30) rfl, rfl⟩
theorem dL_1991 : dc code 1991 1994 (.invokevirtual 286) 3 := ⟨dr_at drL_law_1939 (i := 31) rfl, rfl⟩
theorem dL_1994 : dc code 1994 1995 .pop 1 := ⟨dr_at drL_law_1939 (i := 32) rfl, rfl⟩
theorem dL_1995 : dc code 1995 1998 (.goto 3) 3 := ⟨dr_at drL_law_1939 (i := 33) rfl, rfl⟩
theorem dL_1998 : dc code 1998 2001 (.iinc 4 7) 3 := ⟨dr_at drL_law_1939 (i := 34) rfl, rfl⟩
theorem dL_2001 : dc code 2001 2004 (.goto (-1978)) 3 := ⟨dr_at drL_law_1939 (i := 35) rfl, rfl⟩
theorem dL_2004 : dc code 2004 2005 (.iconst 1) 1 := ⟨dr_at drL_law_1939 (i := 36) rfl, rfl⟩
theorem dL_2005 : dc code 2005 2006 .ireturn 1 := ⟨dr_at drL_law_1939 (i := 37) rfl, rfl⟩
