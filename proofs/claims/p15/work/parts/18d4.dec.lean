theorem drL_law_1602 : ([(1602, .iadd, 1), (1603, .iaload, 1), (1604, (.invokestatic 244), 3), (1607, (.istore 5), 2), (1609, (.aload_n 2), 1), (1610, (.aload_n 0), 1), (1611, (.iload 4), 2), (1613, (.iconst 1), 1), (1614, .iadd, 1), (1615, .iaload, 1), (1616, (.invokevirtual 246), 3), (1619, (.goto 380), 3), (1622, (.aload_n 1), 1), (1623, (.aload_n 0), 1), (1624, (.iload 4), 2), (1626, (.iconst 1), 1), (1627, .iadd, 1), (1628, .iaload, 1), (1629, (.aload_n 0), 1), (1630, (.iload 4), 2), (1632, (.iconst 2), 1), (1633, .iadd, 1), (1634, .iaload, 1), (1635, (.aload_n 3), 1), (1636, (.invokestatic 247), 3), (1639, (.istore 5), 2), (1641, (.aload_n 2), 1), (1642, (.aload_n 0), 1), (1643, (.iload 4), 2), (1645, (.iconst 1), 1), (1646, .iadd, 1), (1647, .iaload, 1), (1648, (.aload_n 0), 1), (1649, (.iload 4), 2), (1651, (.iconst 2), 1), (1652, .iadd, 1), (1653, .iaload, 1), (1654, (.invokevirtual 249), 3), (1657, (.istore 6), 2), (1659, (.goto 340), 3), (1662, (.aload_n 1), 1), (1663, (.aload_n 0), 1), (1664, (.iload 4), 2), (1666, (.iconst 1), 1), (1667, .iadd, 1), (1668, .iaload, 1), (1669, (.aload_n 3), 1), (1670, (.invokestatic 250), 3), (1673, (.istore 5), 2)] : List (Nat × Instr × Nat)).all (fun q => decide (decode code q.1 = .ok q.2)) = true := by decide +kernel
theorem dL_1602 : dc code 1602 1603 .iadd 1 := ⟨dr_at drL_law_1602 (i := 0) rfl, rfl⟩
theorem dL_1603 : dc code 1603 1604 .iaload 1 := ⟨dr_at drL_law_1602 (i := 1) rfl, rfl⟩
theorem dL_1604 : dc code 1604 1607 (.invokestatic 244) 3 := ⟨dr_at drL_law_1602 (i := 2) rfl, rfl⟩
theorem dL_1607 : dc code 1607 1609 (.istore 5) 2 := ⟨dr_at drL_law_1602 (i := 3) rfl, rfl⟩
theorem dL_1609 : dc code 1609 1610 (.aload_n 2) 1 := ⟨dr_at drL_law_1602 (i := 4) rfl, rfl⟩
theorem dL_1610 : dc code 1610 1611 (.aload_n 0) 1 := ⟨dr_at drL_law_1602 (i := 5) rfl, rfl⟩
theorem dL_1611 : dc code 1611 1613 (.iload 4) 2 := ⟨dr_at drL_law_1602 (i := 6) rfl, rfl⟩
theorem dL_1613 : dc code 1613 1614 (.iconst 1) 1 := ⟨dr_at drL_law_1602 (i := 7) rfl, rfl⟩
theorem dL_1614 : dc code 1614 1615 .iadd 1 := ⟨dr_at drL_law_1602 (i := 8) rfl, rfl⟩
theorem dL_1615 : dc code 1615 1616 .iaload 1 := ⟨dr_at drL_law_1602 (i := 9) rfl, rfl⟩
theorem dL_1616 : dc code 1616 1619 (.invokevirtual 246) 3 := ⟨dr_at drL_law_1602 (i := 10) rfl, rfl⟩
theorem dL_1619 : dc code 1619 1622 (.goto 380) 3 := ⟨dr_at drL_law_1602 (i := 11) rfl, rfl⟩
theorem dL_1622 : dc code 1622 1623 (.aload_n 1) 1 := ⟨dr_at drL_law_1602 (i := 12) rfl, rfl⟩
theorem dL_1623 : dc code 1623 1624 (.aload_n 0) 1 := ⟨dr_at drL_law_1602 (i := 13) rfl, rfl⟩
theorem dL_1624 : dc code 1624 1626 (.iload 4) 2 := ⟨dr_at drL_law_1602 (i := 14) rfl, rfl⟩
theorem dL_1626 : dc code 1626 1627 (.iconst 1) 1 := ⟨dr_at drL_law_1602 (i := 15) rfl, rfl⟩
theorem dL_1627 : dc code 1627 1628 .iadd 1 := ⟨dr_at drL_law_1602 (i := 16) rfl, rfl⟩
theorem dL_1628 : dc code 1628 1629 .iaload 1 := ⟨dr_at drL_law_1602 (i := 17) rfl, rfl⟩
theorem dL_1629 : dc code 1629 1630 (.aload_n 0) 1 := ⟨dr_at drL_law_1602 (i := 18) rfl, rfl⟩
theorem dL_1630 : dc code 1630 1632 (.iload 4) 2 := ⟨dr_at drL_law_1602 (i := 19) rfl, rfl⟩
theorem dL_1632 : dc code 1632 1633 (.iconst 2) 1 := ⟨dr_at drL_law_1602 (i := 20) rfl, rfl⟩
theorem dL_1633 : dc code 1633 1634 .iadd 1 := ⟨dr_at drL_law_1602 (i := 21) rfl, rfl⟩
theorem dL_1634 : dc code 1634 1635 .iaload 1 := ⟨dr_at drL_law_1602 (i := 22) rfl, rfl⟩
theorem dL_1635 : dc code 1635 1636 (.aload_n 3) 1 := ⟨dr_at drL_law_1602 (i := 23) rfl, rfl⟩
theorem dL_1636 : dc code 1636 1639 (.invokestatic 247) 3 := ⟨dr_at drL_law_1602 (i := 24) rfl, rfl⟩
theorem dL_1639 : dc code 1639 1641 (.istore 5) 2 := ⟨dr_at drL_law_1602 (i := 25) rfl, rfl⟩
theorem dL_1641 : dc code 1641 1642 (.aload_n 2) 1 := ⟨dr_at drL_law_1602 (i := 26) rfl, rfl⟩
theorem dL_1642 : dc code 1642 1643 (.aload_n 0) 1 := ⟨dr_at drL_law_1602 (i := 27) rfl, rfl⟩
theorem dL_1643 : dc code 1643 1645 (.iload 4) 2 := ⟨dr_at drL_law_1602 (i := 28) rfl, rfl⟩
theorem dL_1645 : dc code 1645 1646 (.iconst 1) 1 := ⟨dr_at drL_law_1602 (i := 29) rfl, rfl⟩
theorem dL_1646 : dc code 1646 1647 .iadd 1 := ⟨dr_at drL_law_1602 (i := 30) rfl, rfl⟩
theorem dL_1647 : dc code 1647 1648 .iaload 1 := ⟨dr_at drL_law_1602 (i := 31) rfl, rfl⟩
theorem dL_1648 : dc code 1648 1649 (.aload_n 0) 1 := ⟨dr_at drL_law_1602 (i := 32) rfl, rfl⟩
theorem dL_1649 : dc code 1649 1651 (.iload 4) 2 := ⟨dr_at drL_law_1602 (i := 33) rfl, rfl⟩
theorem dL_1651 : dc code 1651 1652 (.iconst 2) 1 := ⟨dr_at drL_law_1602 (i := 34) rfl, rfl⟩
theorem dL_1652 : dc code 1652 1653 .iadd 1 := ⟨dr_at drL_law_1602 (i := 35) rfl, rfl⟩
theorem dL_1653 : dc code 1653 1654 .iaload 1 := ⟨dr_at drL_law_1602 (i := 36) rfl, rfl⟩
theorem dL_1654 : dc code 1654 1657 (.invokevirtual 249) 3 := ⟨dr_at drL_law_1602 (i := 37) rfl, rfl⟩
theorem dL_1657 : dc code 1657 1659 (.istore 6) 2 := ⟨dr_at drL_law_1602 (i := 38) rfl, rfl⟩
theorem dL_1659 : dc code 1659 1662 (.goto 340) 3 := ⟨dr_at drL_law_1602 (i := 39) rfl, rfl⟩
theorem dL_1662 : dc code 1662 1663 (.aload_n 1) 1 := ⟨dr_at drL_law_1602 (i := 40) rfl, rfl⟩
theorem dL_1663 : dc code 1663 1664 (.aload_n 0) 1 := ⟨dr_at drL_law_1602 (i := 41) rfl, rfl⟩
theorem dL_1664 : dc code 1664 1666 (.iload 4) 2 := ⟨dr_at drL_law_1602 (i := 42) rfl, rfl⟩
theorem dL_1666 : dc code 1666 1667 (.iconst 1) 1 := ⟨dr_at drL_law_1602 (i := 43) rfl, rfl⟩
theorem dL_1667 : dc code 1667 1668 .iadd 1 := ⟨dr_at drL_law_1602 (i := 44) rfl, rfl⟩
theorem dL_1668 : dc code 1668 1669 .iaload 1 := ⟨dr_at drL_law_1602 (i := 45) rfl, rfl⟩
theorem dL_1669 : dc code 1669 1670 (.aload_n 3) 1 := ⟨dr_at drL_law_1602 (i := 46) rfl, rfl⟩
theorem dL_1670 : dc code 1670 1673 (.invokestatic 250) 3 := ⟨dr_at drL_law_1602 (i := 47) rfl, rfl⟩
theorem dL_1673 : dc code 1673 1675 (.istore 5) 2 := ⟨dr_at drL_law_1602 (i := 48) rfl, rfl⟩
theorem drL_law_1675 : ([(1675, (.aload_n 2), 1), (1676, (.aload_n 0), 1), (1677, (.iload 4), 2), (1679, (.iconst 1), 1), (1680, .iadd, 1), (1681, .iaload, 1), (1682, (.invokevirtual 252), 3), (1685, (.istore 6), 2), (1687, (.goto 312), 3), (1690, (.aload_n 1), 1), (1691, (.aload_n 0), 1), (1692, (.iload 4), 2), (1694, (.iconst 1), 1), (1695, .iadd, 1), (1696, .iaload, 1), (1697, (.aload_n 3), 1), (1698, (.invokestatic 253), 3), (1701, (.istore 5), 2), (1703, (.aload_n 2), 1), (1704, (.aload_n 0), 1), (1705, (.iload 4), 2), (1707, (.iconst 1), 1), (1708, .iadd, 1), (1709, .iaload, 1), (1710, (.invokevirtual 255), 3), (1713, (.istore 6), 2), (1715, (.goto 284), 3), (1718, (.aload_n 1), 1), (1719, (.aload_n 0), 1), (1720, (.iload 4), 2), (1722, (.iconst 1), 1), (1723, .iadd, 1), (1724, .iaload, 1), (1725, (.aload_n 3), 1), (1726, (.invokestatic 256), 3), (1729, (.istore 5), 2), (1731, (.aload_n 2), 1), (1732, (.aload_n 0), 1), (1733, (.iload 4), 2), (1735, (.iconst 1), 1), (1736, .iadd, 1), (1737, .iaload, 1), (1738, (.invokevirtual 258), 3), (1741, (.istore 6), 2), (1743, (.goto 256), 3), (1746, (.aload_n 1), 1), (1747, (.aload_n 0), 1)] : List (Nat × Instr × Nat)).all (fun q => decide (decode code q.1 = .ok q.2)) = true := by decide +kernel
theorem dL_1675 : dc code 1675 1676 (.aload_n 2) 1 := ⟨dr_at drL_law_1675 (i := 0) rfl, rfl⟩
theorem dL_1676 : dc code 1676 1677 (.aload_n 0) 1 := ⟨dr_at drL_law_1675 (i := 1) rfl, rfl⟩
theorem dL_1677 : dc code 1677 1679 (.iload 4) 2 := ⟨dr_at drL_law_1675 (i := 2) rfl, rfl⟩
theorem dL_1679 : dc code 1679 1680 (.iconst 1) 1 := ⟨dr_at drL_law_1675 (i := 3) rfl, rfl⟩
theorem dL_1680 : dc code 1680 1681 .iadd 1 := ⟨dr_at drL_law_1675 (i := 4) rfl, rfl⟩
theorem dL_1681 : dc code 1681 1682 .iaload 1 := ⟨dr_at drL_law_1675 (i := 5) rfl, rfl⟩
theorem dL_1682 : dc code 1682 1685 (.invokevirtual 252) 3 := ⟨dr_at drL_law_1675 (i := 6) rfl, rfl⟩
theorem dL_1685 : dc code 1685 1687 (.istore 6) 2 := ⟨dr_at drL_law_1675 (i := 7) rfl, rfl⟩
theorem dL_1687 : dc code 1687 1690 (.goto 312) 3 := ⟨dr_at drL_law_1675 (i := 8) rfl, rfl⟩
theorem dL_1690 : dc code 1690 1691 (.aload_n 1) 1 := ⟨dr_at drL_law_1675 (i := 9) rfl, rfl⟩
theorem dL_1691 : dc code 1691 1692 (.aload_n 0) 1 := ⟨dr_at drL_law_1675 (i := 10) rfl, rfl⟩
theorem dL_1692 : dc code 1692 1694 (.iload 4) 2 := ⟨dr_at drL_law_1675 (i := 11) rfl, rfl⟩
theorem dL_1694 : dc code 1694 1695 (.iconst 1) 1 := ⟨dr_at drL_law_1675 (i := 12) rfl, rfl⟩
theorem dL_1695 : dc code 1695 1696 .iadd 1 := ⟨dr_at drL_law_1675 (i := 13) rfl, rfl⟩
theorem dL_1696 : dc code 1696 1697 .iaload 1 := ⟨dr_at drL_law_1675 (i := 14) rfl, rfl⟩
theorem dL_1697 : dc code 1697 1698 (.aload_n 3) 1 := ⟨dr_at drL_law_1675 (i := 15) rfl, rfl⟩
theorem dL_1698 : dc code 1698 1701 (.invokestatic 253) 3 := ⟨dr_at drL_law_1675 (i := 16) rfl, rfl⟩
theorem dL_1701 : dc code 1701 1703 (.istore 5) 2 := ⟨dr_at drL_law_1675 (i := 17) rfl, rfl⟩
theorem dL_1703 : dc code 1703 1704 (.aload_n 2) 1 := ⟨dr_at drL_law_1675 (i := 18) rfl, rfl⟩
theorem dL_1704 : dc code 1704 1705 (.aload_n 0) 1 := ⟨dr_at drL_law_1675 (i := 19) rfl, rfl⟩
theorem dL_1705 : dc code 1705 1707 (.iload 4) 2 := ⟨dr_at drL_law_1675 (i := 20) rfl, rfl⟩
theorem dL_1707 : dc code 1707 1708 (.iconst 1) 1 := ⟨dr_at drL_law_1675 (i := 21) rfl, rfl⟩
theorem dL_1708 : dc code 1708 1709 .iadd 1 := ⟨dr_at drL_law_1675 (i := 22) rfl, rfl⟩
theorem dL_1709 : dc code 1709 1710 .iaload 1 := ⟨dr_at drL_law_1675 (i := 23) rfl, rfl⟩
theorem dL_1710 : dc code 1710 1713 (.invokevirtual 255) 3 := ⟨dr_at drL_law_1675 (i := 24) rfl, rfl⟩
theorem dL_1713 : dc code 1713 1715 (.istore 6) 2 := ⟨dr_at drL_law_1675 (i := 25) rfl, rfl⟩
theorem dL_1715 : dc code 1715 1718 (.goto 284) 3 := ⟨dr_at drL_law_1675 (i := 26) rfl, rfl⟩
theorem dL_1718 : dc code 1718 1719 (.aload_n 1) 1 := ⟨dr_at drL_law_1675 (i := 27) rfl, rfl⟩
theorem dL_1719 : dc code 1719 1720 (.aload_n 0) 1 := ⟨dr_at drL_law_1675 (i := 28) rfl, rfl⟩
theorem dL_1720 : dc code 1720 1722 (.iload 4) 2 := ⟨dr_at drL_law_1675 (i := 29) rfl, rfl⟩
theorem dL_1722 : dc code 1722 1723 (.iconst 1) 1 := ⟨dr_at drL_law_1675 (i := 30) rfl, rfl⟩
theorem dL_1723 : dc code 1723 1724 .iadd 1 := ⟨dr_at drL_law_1675 (i := 31) rfl, rfl⟩
theorem dL_1724 : dc code 1724 1725 .iaload 1 := ⟨dr_at drL_law_1675 (i := 32) rfl, rfl⟩
theorem dL_1725 : dc code 1725 1726 (.aload_n 3) 1 := ⟨dr_at drL_law_1675 (i := 33) rfl, rfl⟩
theorem dL_1726 : dc code 1726 1729 (.invokestatic 256) 3 := ⟨dr_at drL_law_1675 (i := 34) rfl, rfl⟩
theorem dL_1729 : dc code 1729 1731 (.istore 5) 2 := ⟨dr_at drL_law_1675 (i := 35) rfl, rfl⟩
theorem dL_1731 : dc code 1731 1732 (.aload_n 2) 1 := ⟨dr_at drL_law_1675 (i := 36) rfl, rfl⟩
theorem dL_1732 : dc code 1732 1733 (.aload_n 0) 1 := ⟨dr_at drL_law_1675 (i := 37) rfl, rfl⟩
theorem dL_1733 : dc code 1733 1735 (.iload 4) 2 := ⟨dr_at drL_law_1675 (i := 38) rfl, rfl⟩
theorem dL_1735 : dc code 1735 1736 (.iconst 1) 1 := ⟨dr_at drL_law_1675 (i := 39) rfl, rfl⟩
theorem dL_1736 : dc code 1736 1737 .iadd 1 := ⟨dr_at drL_law_1675 (i := 40) rfl, rfl⟩
theorem dL_1737 : dc code 1737 1738 .iaload 1 := ⟨dr_at drL_law_1675 (i := 41) rfl, rfl⟩
theorem dL_1738 : dc code 1738 1741 (.invokevirtual 258) 3 := ⟨dr_at drL_law_1675 (i := 42) rfl, rfl⟩
theorem dL_1741 : dc code 1741 1743 (.istore 6) 2 := ⟨dr_at drL_law_1675 (i := 43) rfl, rfl⟩
theorem dL_1743 : dc code 1743 1746 (.goto 256) 3 := ⟨dr_at drL_law_1675 (i := 44) rfl, rfl⟩
theorem dL_1746 : dc code 1746 1747 (.aload_n 1) 1 := ⟨dr_at drL_law_1675 (i := 45) rfl, rfl⟩
theorem dL_1747 : dc code 1747 1748 (.aload_n 0) 1 := ⟨dr_at drL_law_1675 (i := 46) rfl, rfl⟩
theorem drL_law_1748 : ([(1748, (.iload 4), 2), (1750, (.iconst 1), 1), (1751, .iadd, 1), (1752, .iaload, 1), (1753, (.aload_n 0), 1), (1754, (.iload 4), 2), (1756, (.iconst 2), 1), (1757, .iadd, 1), (1758, .iaload, 1), (1759, (.aload_n 3), 1), (1760, (.invokestatic 259), 3), (1763, (.istore 5), 2), (1765, (.aload_n 2), 1), (1766, (.aload_n 0), 1), (1767, (.iload 4), 2), (1769, (.iconst 1), 1), (1770, .iadd, 1), (1771, .iaload, 1), (1772, (.aload_n 0), 1), (1773, (.iload 4), 2), (1775, (.iconst 2), 1), (1776, .iadd, 1), (1777, .iaload, 1), (1778, (.invokevirtual 261), 3), (1781, (.istore 6), 2), (1783, (.goto 216), 3), (1786, (.aload_n 1), 1), (1787, (.aload_n 0), 1), (1788, (.iload 4), 2), (1790, (.iconst 1), 1), (1791, .iadd, 1), (1792, .iaload, 1), (1793, (.aload_n 0), 1), (1794, (.iload 4), 2), (1796, (.iconst 2), 1), (1797, .iadd, 1), (1798, .iaload, 1), (1799, (.aload_n 3), 1), (1800, (.invokestatic 262), 3), (1803, (.istore 5), 2), (1805, (.aload_n 2), 1), (1806, (.aload_n 0), 1), (1807, (.iload 4), 2), (1809, (.iconst 1), 1), (1810, .iadd, 1)] : List (Nat × Instr × Nat)).all (fun q => decide (decode code q.1 = .ok q.2)) = true := by decide +kernel
theorem dL_1748 : dc code 1748 1750 (.iload 4) 2 := ⟨dr_at drL_law_1748 (i := 0) rfl, rfl⟩
theorem dL_1750 : dc code 1750 1751 (.iconst 1) 1 := ⟨dr_at drL_law_1748 (i := 1) rfl, rfl⟩
theorem dL_1751 : dc code 1751 1752 .iadd 1 := ⟨dr_at drL_law_1748 (i := 2) rfl, rfl⟩
theorem dL_1752 : dc code 1752 1753 .iaload 1 := ⟨dr_at drL_law_1748 (i := 3) rfl, rfl⟩
theorem dL_1753 : dc code 1753 1754 (.aload_n 0) 1 := ⟨dr_at drL_law_1748 (i := 4) rfl, rfl⟩
theorem dL_1754 : dc code 1754 1756 (.iload 4) 2 := ⟨dr_at drL_law_1748 (i := 5) rfl, rfl⟩
theorem dL_1756 : dc code 1756 1757 (.iconst 2) 1 := ⟨dr_at drL_law_1748 (i := 6) rfl, rfl⟩
theorem dL_1757 : dc code 1757 1758 .iadd 1 := ⟨dr_at drL_law_1748 (i := 7) rfl, rfl⟩
theorem dL_1758 : dc code 1758 1759 .iaload 1 := ⟨dr_at drL_law_1748 (i := 8) rfl, rfl⟩
theorem dL_1759 : dc code 1759 1760 (.aload_n 3) 1 := ⟨dr_at drL_law_1748 (i := 9) rfl, rfl⟩
theorem dL_1760 : dc code 1760 1763 (.invokestatic 259) 3 := ⟨dr_at drL_law_1748 (i := 10) rfl, rfl⟩
theorem dL_1763 : dc code 1763 1765 (.istore 5) 2 := ⟨dr_at drL_law_1748 (i := 11) rfl, rfl⟩
theorem dL_1765 : dc code 1765 1766 (.aload_n 2) 1 := ⟨dr_at drL_law_1748 (i := 12) rfl, rfl⟩
theorem dL_1766 : dc code 1766 1767 (.aload_n 0) 1 := ⟨dr_at drL_law_1748 (i := 13) rfl, rfl⟩
theorem dL_1767 : dc code 1767 1769 (.iload 4) 2 := ⟨dr_at drL_law_1748 (i := 14) rfl, rfl⟩
theorem dL_1769 : dc code 1769 1770 (.iconst 1) 1 := ⟨dr_at drL_law_1748 (i := 15) rfl, rfl⟩
theorem dL_1770 : dc code 1770 1771 .iadd 1 := ⟨dr_at drL_law_1748 (i := 16) rfl, rfl⟩
theorem dL_1771 : dc code 1771 1772 .iaload 1 := ⟨dr_at drL_law_1748 (i := 17) rfl, rfl⟩
theorem dL_1772 : dc code 1772 1773 (.aload_n 0) 1 := ⟨dr_at drL_law_1748 (i := 18) rfl, rfl⟩
theorem dL_1773 : dc code 1773 1775 (.iload 4) 2 := ⟨dr_at drL_law_1748 (i := 19) rfl, rfl⟩
theorem dL_1775 : dc code 1775 1776 (.iconst 2) 1 := ⟨dr_at drL_law_1748 (i := 20) rfl, rfl⟩
theorem dL_1776 : dc code 1776 1777 .iadd 1 := ⟨dr_at drL_law_1748 (i := 21) rfl, rfl⟩
theorem dL_1777 : dc code 1777 1778 .iaload 1 := ⟨dr_at drL_law_1748 (i := 22) rfl, rfl⟩
theorem dL_1778 : dc code 1778 1781 (.invokevirtual 261) 3 := ⟨dr_at drL_law_1748 (i := 23) rfl, rfl⟩
theorem dL_1781 : dc code 1781 1783 (.istore 6) 2 := ⟨dr_at drL_law_1748 (i := 24) rfl, rfl⟩
theorem dL_1783 : dc code 1783 1786 (.goto 216) 3 := ⟨dr_at drL_law_1748 (i := 25) rfl, rfl⟩
theorem dL_1786 : dc code 1786 1787 (.aload_n 1) 1 := ⟨dr_at drL_law_1748 (i := 26) rfl, rfl⟩
theorem dL_1787 : dc code 1787 1788 (.aload_n 0) 1 := ⟨dr_at drL_law_1748 (i := 27) rfl, rfl⟩
theorem dL_1788 : dc code 1788 1790 (.iload 4) 2 := ⟨dr_at drL_law_1748 (i := 28) rfl, rfl⟩
theorem dL_1790 : dc code 1790 1791 (.iconst 1) 1 := ⟨dr_at drL_law_1748 (i := 29) rfl, rfl⟩
theorem dL_1791 : dc code 1791 1792 .iadd 1 := ⟨dr_at drL_law_1748 (i := 30) rfl, rfl⟩
theorem dL_1792 : dc code 1792 1793 .iaload 1 := ⟨dr_at drL_law_1748 (i := 31) rfl, rfl⟩
theorem dL_1793 : dc code 1793 1794 (.aload_n 0) 1 := ⟨dr_at drL_law_1748 (i := 32) rfl, rfl⟩
theorem dL_1794 : dc code 1794 1796 (.iload 4) 2 := ⟨dr_at drL_law_1748 (i := 33) rfl, rfl⟩
theorem dL_1796 : dc code 1796 1797 (.iconst 2) 1 := ⟨dr_at drL_law_1748 (i := 34) rfl, rfl⟩
theorem dL_1797 : dc code 1797 1798 .iadd 1 := ⟨dr_at drL_law_1748 (i := 35) rfl, rfl⟩
theorem dL_1798 : dc code 1798 1799 .iaload 1 := ⟨dr_at drL_law_1748 (i := 36) rfl, rfl⟩
theorem dL_1799 : dc code 1799 1800 (.aload_n 3) 1 := ⟨dr_at drL_law_1748 (i := 37) rfl, rfl⟩
theorem dL_1800 : dc code 1800 1803 (.invokestatic 262) 3 := ⟨dr_at drL_law_1748 (i := 38) rfl, rfl⟩
theorem dL_1803 : dc code 1803 1805 (.istore 5) 2 := ⟨dr_at drL_law_1748 (i := 39) rfl, rfl⟩
theorem dL_1805 : dc code 1805 1806 (.aload_n 2) 1 := ⟨dr_at drL_law_1748 (i := 40) rfl, rfl⟩
theorem dL_1806 : dc code 1806 1807 (.aload_n 0) 1 := ⟨dr_at drL_law_1748 (i := 41) rfl, rfl⟩
theorem dL_1807 : dc code 1807 1809 (.iload 4) 2 := ⟨dr_at drL_law_1748 (i := 42) rfl, rfl⟩
theorem dL_1809 : dc code 1809 1810 (.iconst 1) 1 := ⟨dr_at drL_law_1748 (i := 43) rfl, rfl⟩
theorem dL_1810 : dc code 1810 1811 .iadd 1 := ⟨dr_at drL_law_1748 (i := 44) rfl, rfl⟩
theorem drL_law_1811 : ([(1811, .iaload, 1), (1812, (.aload_n 0), 1), (1813, (.iload 4), 2), (1815, (.iconst 2), 1), (1816, .iadd, 1), (1817, .iaload, 1), (1818, (.invokevirtual 264), 3), (1821, (.istore 6), 2), (1823, (.goto 176), 3), (1826, (.aload_n 1), 1), (1827, (.aload_n 0), 1), (1828, (.iload 4), 2), (1830, (.iconst 1), 1), (1831, .iadd, 1), (1832, .iaload, 1), (1833, (.aload_n 0), 1), (1834, (.iload 4), 2), (1836, (.iconst 2), 1), (1837, .iadd, 1), (1838, .iaload, 1), (1839, (.aload_n 3), 1), (1840, (.invokestatic 265), 3), (1843, (.istore 5), 2), (1845, (.aload_n 2), 1), (1846, (.aload_n 0), 1), (1847, (.iload 4), 2), (1849, (.iconst 1), 1), (1850, .iadd, 1), (1851, .iaload, 1), (1852, (.aload_n 0), 1), (1853, (.iload 4), 2), (1855, (.iconst 2), 1), (1856, .iadd, 1), (1857, .iaload, 1), (1858, (.invokevirtual 267), 3), (1861, (.istore 6), 2), (1863, (.goto 136), 3), (1866, (.aload_n 1), 1), (1867, (.aload_n 0), 1), (1868, (.iload 4), 2), (1870, (.iconst 1), 1), (1871, .iadd, 1), (1872, .iaload, 1), (1873, (.aload_n 0), 1)] : List (Nat × Instr × Nat)).all (fun q => decide (decode code q.1 = .ok q.2)) = true := by decide +kernel
theorem dL_1811 : dc code 1811 1812 .iaload 1 := ⟨dr_at drL_law_1811 (i := 0) rfl, rfl⟩
theorem dL_1812 : dc code 1812 1813 (.aload_n 0) 1 := ⟨dr_at drL_law_1811 (i := 1) rfl, rfl⟩
theorem dL_1813 : dc code 1813 1815 (.iload 4) 2 := ⟨dr_at drL_law_1811 (i := 2) rfl, rfl⟩
theorem dL_1815 : dc code 1815 1816 (.iconst 2) 1 := ⟨dr_at drL_law_1811 (i := 3) rfl, rfl⟩
theorem dL_1816 : dc code 1816 1817 .iadd 1 := ⟨dr_at drL_law_1811 (i := 4) rfl, rfl⟩
theorem dL_1817 : dc code 1817 1818 .iaload 1 := ⟨dr_at drL_law_1811 (i := 5) rfl, rfl⟩
theorem dL_1818 : dc code 1818 1821 (.invokevirtual 264) 3 := ⟨dr_at drL_law_1811 (i := 6) rfl, rfl⟩
theorem dL_1821 : dc code 1821 1823 (.istore 6) 2 := ⟨dr_at drL_law_1811 (i := 7) rfl, rfl⟩
theorem dL_1823 : dc code 1823 1826 (.goto 176) 3 := ⟨dr_at drL_law_1811 (i := 8) rfl, rfl⟩
theorem dL_1826 : dc code 1826 1827 (.aload_n 1) 1 := ⟨dr_at drL_law_1811 (i := 9) rfl, rfl⟩
theorem dL_1827 : dc code 1827 1828 (.aload_n 0) 1 := ⟨dr_at drL_law_1811 (i := 10) rfl, rfl⟩
theorem dL_1828 : dc code 1828 1830 (.iload 4) 2 := ⟨dr_at drL_law_1811 (i := 11) rfl, rfl⟩
theorem dL_1830 : dc code 1830 1831 (.iconst 1) 1 := ⟨dr_at drL_law_1811 (i := 12) rfl, rfl⟩
theorem dL_1831 : dc code 1831 1832 .iadd 1 := ⟨dr_at drL_law_1811 (i := 13) rfl, rfl⟩
theorem dL_1832 : dc code 1832 1833 .iaload 1 := ⟨dr_at drL_law_1811 (i := 14) rfl, rfl⟩
theorem dL_1833 : dc code 1833 1834 (.aload_n 0) 1 := ⟨dr_at drL_law_1811 (i := 15) rfl, rfl⟩
theorem dL_1834 : dc code 1834 1836 (.iload 4) 2 := ⟨dr_at drL_law_1811 (i := 16) rfl, rfl⟩
theorem dL_1836 : dc code 1836 1837 (.iconst 2) 1 := ⟨dr_at drL_law_1811 (i := 17) rfl, rfl⟩
theorem dL_1837 : dc code 1837 1838 .iadd 1 := ⟨dr_at drL_law_1811 (i := 18) rfl, rfl⟩
theorem dL_1838 : dc code 1838 1839 .iaload 1 := ⟨dr_at drL_law_1811 (i := 19) rfl, rfl⟩
theorem dL_1839 : dc code 1839 1840 (.aload_n 3) 1 := ⟨dr_at drL_law_1811 (i := 20) rfl, rfl⟩
theorem dL_1840 : dc code 1840 1843 (.invokestatic 265) 3 := ⟨dr_at drL_law_1811 (i := 21) rfl, rfl⟩
theorem dL_1843 : dc code 1843 1845 (.istore 5) 2 := ⟨dr_at drL_law_1811 (i := 22) rfl, rfl⟩
theorem dL_1845 : dc code 1845 1846 (.aload_n 2) 1 := ⟨dr_at drL_law_1811 (i := 23) rfl, rfl⟩
theorem dL_1846 : dc code 1846 1847 (.aload_n 0) 1 := ⟨dr_at drL_law_1811 (i := 24) rfl, rfl⟩
theorem dL_1847 : dc code 1847 1849 (.iload 4) 2 := ⟨dr_at drL_law_1811 (i := 25) rfl, rfl⟩
theorem dL_1849 : dc code 1849 1850 (.iconst 1) 1 := ⟨dr_at drL_law_1811 (i := 26) rfl, rfl⟩
theorem dL_1850 : dc code 1850 1851 .iadd 1 := ⟨dr_at drL_law_1811 (i := 27) rfl, rfl⟩
theorem dL_1851 : dc code 1851 1852 .iaload 1 := ⟨dr_at drL_law_1811 (i := 28) rfl, rfl⟩
theorem dL_1852 : dc code 1852 1853 (.aload_n 0) 1 := ⟨dr_at drL_law_1811 (i := 29) rfl, rfl⟩
theorem dL_1853 : dc code 1853 1855 (.iload 4) 2 := ⟨dr_at drL_law_1811 (i := 30) rfl, rfl⟩
theorem dL_1855 : dc code 1855 1856 (.iconst 2) 1 := ⟨dr_at drL_law_1811 (i := 31) rfl, rfl⟩
theorem dL_1856 : dc code 1856 1857 .iadd 1 := ⟨dr_at drL_law_1811 (i := 32) rfl, rfl⟩
theorem dL_1857 : dc code 1857 1858 .iaload 1 := ⟨dr_at drL_law_1811 (i := 33) rfl, rfl⟩
theorem dL_1858 : dc code 1858 1861 (.invokevirtual 267) 3 := ⟨dr_at drL_law_1811 (i := 34) rfl, rfl⟩
theorem dL_1861 : dc code 1861 1863 (.istore 6) 2 := ⟨dr_at drL_law_1811 (i := 35) rfl, rfl⟩
theorem dL_1863 : dc code 1863 1866 (.goto 136) 3 := ⟨dr_at drL_law_1811 (i := 36) rfl, rfl⟩
theorem dL_1866 : dc code 1866 1867 (.aload_n 1) 1 := ⟨dr_at drL_law_1811 (i := 37) rfl, rfl⟩
theorem dL_1867 : dc code 1867 1868 (.aload_n 0) 1 := ⟨dr_at drL_law_1811 (i := 38) rfl, rfl⟩
theorem dL_1868 : dc code 1868 1870 (.iload 4) 2 := ⟨dr_at drL_law_1811 (i := 39) rfl, rfl⟩
theorem dL_1870 : dc code 1870 1871 (.iconst 1) 1 := ⟨dr_at drL_law_1811 (i := 40) rfl, rfl⟩
theorem dL_1871 : dc code 1871 1872 .iadd 1 := ⟨dr_at drL_law_1811 (i := 41) rfl, rfl⟩
theorem dL_1872 : dc code 1872 1873 .iaload 1 := ⟨dr_at drL_law_1811 (i := 42) rfl, rfl⟩
theorem dL_1873 : dc code 1873 1874 (.aload_n 0) 1 := ⟨dr_at drL_law_1811 (i := 43) rfl, rfl⟩
theorem drL_law_1874 : ([(1874, (.iload 4), 2), (1876, (.iconst 2), 1), (1877, .iadd, 1), (1878, .iaload, 1), (1879, (.ifCond .eq 7), 3), (1882, (.iconst 1), 1), (1883, (.goto 4), 3), (1886, (.iconst 0), 1), (1887, (.aload_n 3), 1), (1888, (.invokestatic 268), 3), (1891, (.istore 5), 2), (1893, (.aload_n 2), 1), (1894, (.aload_n 0), 1), (1895, (.iload 4), 2), (1897, (.iconst 1), 1), (1898, .iadd, 1), (1899, .iaload, 1), (1900, (.aload_n 0), 1), (1901, (.iload 4), 2), (1903, (.iconst 2), 1), (1904, .iadd, 1), (1905, .iaload, 1), (1906, (.ifCond .eq 7), 3), (1909, (.iconst 1), 1), (1910, (.goto 4), 3), (1913, (.iconst 0), 1), (1914, (.invokevirtual 270), 3), (1917, (.istore 6), 2), (1919, (.goto 80), 3), (1922, (.aload_n 1), 1), (1923, (.aload_n 0), 1), (1924, (.iload 4), 2), (1926, (.iconst 1), 1), (1927, .iadd, 1), (1928, .iaload, 1), (1929, (.aload_n 3), 1), (1930, (.invokestatic 271), 3), (1933, (.istore 5), 2), (1935, (.aload_n 2), 1), (1936, (.aload_n 0), 1), (1937, (.iload 4), 2), (1939, (.iconst 1), 1)] : List (Nat × Instr × Nat)).all (fun q => decide (decode code q.1 = .ok q.2)) = true := by decide +kernel
theorem dL_1874 : dc code 1874 1876 (.iload 4) 2 := ⟨dr_at drL_law_1874 (i := 0) rfl, rfl⟩
theorem dL_1876 : dc code 1876 1877 (.iconst 2) 1 := ⟨dr_at drL_law_1874 (i := 1) rfl, rfl⟩
theorem dL_1877 : dc code 1877 1878 .iadd 1 := ⟨dr_at drL_law_1874 (i := 2) rfl, rfl⟩
theorem dL_1878 : dc code 1878 1879 .iaload 1 := ⟨dr_at drL_law_1874 (i := 3) rfl, rfl⟩
theorem dL_1879 : dc code 1879 1882 (.ifCond .eq 7) 3 := ⟨dr_at drL_law_1874 (i := 4) rfl, rfl⟩
theorem dL_1882 : dc code 1882 1883 (.iconst 1) 1 := ⟨dr_at drL_law_1874 (i := 5) rfl, rfl⟩
theorem dL_1883 : dc code 1883 1886 (.goto 4) 3 := ⟨dr_at drL_law_1874 (i := 6) rfl, rfl⟩
theorem dL_1886 : dc code 1886 1887 (.iconst 0) 1 := ⟨dr_at drL_law_1874 (i := 7) rfl, rfl⟩
theorem dL_1887 : dc code 1887 1888 (.aload_n 3) 1 := ⟨dr_at drL_law_1874 (i := 8) rfl, rfl⟩
theorem dL_1888 : dc code 1888 1891 (.invokestatic 268) 3 := ⟨dr_at drL_law_1874 (i := 9) rfl, rfl⟩
theorem dL_1891 : dc code 1891 1893 (.istore 5) 2 := ⟨dr_at drL_law_1874 (i := 10) rfl, rfl⟩
theorem dL_1893 : dc code 1893 1894 (.aload_n 2) 1 := ⟨dr_at drL_law_1874 (i := 11) rfl, rfl⟩
theorem dL_1894 : dc code 1894 1895 (.aload_n 0) 1 := ⟨dr_at drL_law_1874 (i := 12) rfl, rfl⟩
theorem dL_1895 : dc code 1895 1897 (.iload 4) 2 := ⟨dr_at drL_law_1874 (i := 13) rfl, rfl⟩
theorem dL_1897 : dc code 1897 1898 (.iconst 1) 1 := ⟨dr_at drL_law_1874 (i := 14) rfl, rfl⟩
theorem dL_1898 : dc code 1898 1899 .iadd 1 := ⟨dr_at drL_law_1874 (i := 15) rfl, rfl⟩
theorem dL_1899 : dc code 1899 1900 .iaload 1 := ⟨dr_at drL_law_1874 (i := 16) rfl, rfl⟩
theorem dL_1900 : dc code 1900 1901 (.aload_n 0) 1 := ⟨dr_at drL_law_1874 (i := 17) rfl, rfl⟩
theorem dL_1901 : dc code 1901 1903 (.iload 4) 2 := ⟨dr_at drL_law_1874 (i := 18) rfl, rfl⟩
theorem dL_1903 : dc code 1903 1904 (.iconst 2) 1 := ⟨dr_at drL_law_1874 (i := 19) rfl, rfl⟩
theorem dL_1904 : dc code 1904 1905 .iadd 1 := ⟨dr_at drL_law_1874 (i := 20) rfl, rfl⟩
theorem dL_1905 : dc code 1905 1906 .iaload 1 := ⟨dr_at drL_law_1874 (i := 21) rfl, rfl⟩
theorem dL_1906 : dc code 1906 1909 (.ifCond .eq 7) 3 := ⟨dr_at drL_law_1874 (i := 22) rfl, rfl⟩
theorem dL_1909 : dc code 1909 1910 (.iconst 1) 1 := ⟨dr_at drL_law_1874 (i := 23) rfl, rfl⟩
theorem dL_1910 : dc code 1910 1913 (.goto 4) 3 := ⟨dr_at drL_law_1874 (i := 24) rfl, rfl⟩
theorem dL_1913 : dc code 1913 1914 (.iconst 0) 1 := ⟨dr_at drL_law_1874 (i := 25) rfl, rfl⟩
theorem dL_1914 : dc code 1914 1917 (.invokevirtual 270) 3 := ⟨dr_at drL_law_1874 (i := 26) rfl, rfl⟩
theorem dL_1917 : dc code 1917 1919 (.istore 6) 2 := ⟨dr_at drL_law_1874 (i := 27) rfl, rfl⟩
theorem dL_1919 : dc code 1919 1922 (.goto 80) 3 := ⟨dr_at drL_law_1874 (i := 28) rfl, rfl⟩
theorem dL_1922 : dc code 1922 1923 (.aload_n 1) 1 := ⟨dr_at drL_law_1874 (i := 29) rfl, rfl⟩
theorem dL_1923 : dc code 1923 1924 (.aload_n 0) 1 := ⟨dr_at drL_law_1874 (i := 30) rfl, rfl⟩
theorem dL_1924 : dc code 1924 1926 (.iload 4) 2 := ⟨dr_at drL_law_1874 (i := 31) rfl, rfl⟩
theorem dL_1926 : dc code 1926 1927 (.iconst 1) 1 := ⟨dr_at drL_law_1874 (i := 32) rfl, rfl⟩
theorem dL_1927 : dc code 1927 1928 .iadd 1 := ⟨dr_at drL_law_1874 (i := 33) rfl, rfl⟩
theorem dL_1928 : dc code 1928 1929 .iaload 1 := ⟨dr_at drL_law_1874 (i := 34) rfl, rfl⟩
theorem dL_1929 : dc code 1929 1930 (.aload_n 3) 1 := ⟨dr_at drL_law_1874 (i := 35) rfl, rfl⟩
theorem dL_1930 : dc code 1930 1933 (.invokestatic 271) 3 := ⟨dr_at drL_law_1874 (i := 36) rfl, rfl⟩
theorem dL_1933 : dc code 1933 1935 (.istore 5) 2 := ⟨dr_at drL_law_1874 (i := 37) rfl, rfl⟩
theorem dL_1935 : dc code 1935 1936 (.aload_n 2) 1 := ⟨dr_at drL_law_1874 (i := 38) rfl, rfl⟩
theorem dL_1936 : dc code 1936 1937 (.aload_n 0) 1 := ⟨dr_at drL_law_1874 (i := 39) rfl, rfl⟩
theorem dL_1937 : dc code 1937 1939 (.iload 4) 2 := ⟨dr_at drL_law_1874 (i := 40) rfl, rfl⟩
theorem dL_1939 : dc code 1939 1940 (.iconst 1) 1 := ⟨dr_at drL_law_1874 (i := 41) rfl, rfl⟩
theorem drL_law_1940 : ([(1940, .iadd, 1), (1941, .iaload, 1), (1942, (.invokevirtual 273), 3), (1945, (.istore 6), 2), (1947, (.goto 52), 3), (1950, (.aload_n 1), 1), (1951, (.invokevirtual 274), 3), (1954, (.aload_n 2), 1), (1955, (.invokevirtual 277), 3), (1958, (.goto 41), 3), (1961, (.aload_n 1), 1), (1962, (.invokevirtual 278), 3), (1965, .pop, 1), (1966, (.aload_n 2), 1), (1967, (.invokevirtual 282), 3), (1970, .pop, 1), (1971, (.goto 28), 3), (1974, (.aload_n 1), 1), (1975, (.aload_n 0), 1), (1976, (.iload 4), 2), (1978, (.iconst 1), 1), (1979, .iadd, 1), (1980, .iaload, 1), (1981, (.invokevirtual 283), 3), (1984, .pop, 1), (1985, (.aload_n 2), 1), (1986, (.aload_n 0), 1), (1987, (.iload 4), 2), (1989, (.iconst 1), 1), (1990, .iadd, 1), (1991, .iaload, 1), (1992, (.invokevirtual 286), 3), (1995, .pop, 1), (1996, (.goto 3), 3), (1999, (.iinc 4 7), 3), (2002, (.goto (-1979)), 3), (2005, (.iconst 1), 1), (2006, .ireturn, 1)] : List (Nat × Instr × Nat)).all (fun q => decide (decode code q.1 = .ok q.2)) = true := by decide +kernel
theorem dL_1940 : dc code 1940 1941 .iadd 1 := ⟨dr_at drL_law_1940 (i := 0) rfl, rfl⟩
theorem dL_1941 : dc code 1941 1942 .iaload 1 := ⟨dr_at drL_law_1940 (i := 1) rfl, rfl⟩
theorem dL_1942 : dc code 1942 1945 (.invokevirtual 273) 3 := ⟨dr_at drL_law_1940 (i := 2) rfl, rfl⟩
theorem dL_1945 : dc code 1945 1947 (.istore 6) 2 := ⟨dr_at drL_law_1940 (i := 3) rfl, rfl⟩
theorem dL_1947 : dc code 1947 1950 (.goto 52) 3 := ⟨dr_at drL_law_1940 (i := 4) rfl, rfl⟩
theorem dL_1950 : dc code 1950 1951 (.aload_n 1) 1 := ⟨dr_at drL_law_1940 (i := 5) rfl, rfl⟩
theorem dL_1951 : dc code 1951 1954 (.invokevirtual 274) 3 := ⟨dr_at drL_law_1940 (i := 6) rfl, rfl⟩
theorem dL_1954 : dc code 1954 1955 (.aload_n 2) 1 := ⟨dr_at drL_law_1940 (i := 7) rfl, rfl⟩
theorem dL_1955 : dc code 1955 1958 (.invokevirtual 277) 3 := ⟨dr_at drL_law_1940 (i := 8) rfl, rfl⟩
theorem dL_1958 : dc code 1958 1961 (.goto 41) 3 := ⟨dr_at drL_law_1940 (i := 9) rfl, rfl⟩
theorem dL_1961 : dc code 1961 1962 (.aload_n 1) 1 := ⟨dr_at drL_law_1940 (i := 10) rfl, rfl⟩
theorem dL_1962 : dc code 1962 1965 (.invokevirtual 278) 3 := ⟨dr_at drL_law_1940 (i := 11) rfl, rfl⟩
theorem dL_1965 : dc code 1965 1966 .pop 1 := ⟨dr_at drL_law_1940 (i := 12) rfl, rfl⟩
theorem dL_1966 : dc code 1966 1967 (.aload_n 2) 1 := ⟨dr_at drL_law_1940 (i := 13) rfl, rfl⟩
theorem dL_1967 : dc code 1967 1970 (.invokevirtual 282) 3 := ⟨dr_at drL_law_1940 (i := 14) rfl, rfl⟩
theorem dL_1970 : dc code 1970 1971 .pop 1 := ⟨dr_at drL_law_1940 (i := 15) rfl, rfl⟩
theorem dL_1971 : dc code 1971 1974 (.goto 28) 3 := ⟨dr_at drL_law_1940 (i := 16) rfl, rfl⟩
theorem dL_1974 : dc code 1974 1975 (.aload_n 1) 1 := ⟨dr_at drL_law_1940 (i := 17) rfl, rfl⟩
theorem dL_1975 : dc code 1975 1976 (.aload_n 0) 1 := ⟨dr_at drL_law_1940 (i := 18) rfl, rfl⟩
theorem dL_1976 : dc code 1976 1978 (.iload 4) 2 := ⟨dr_at drL_law_1940 (i := 19) rfl, rfl⟩
theorem dL_1978 : dc code 1978 1979 (.iconst 1) 1 := ⟨dr_at drL_law_1940 (i := 20) rfl, rfl⟩
theorem dL_1979 : dc code 1979 1980 .iadd 1 := ⟨dr_at drL_law_1940 (i := 21) rfl, rfl⟩
theorem dL_1980 : dc code 1980 1981 .iaload 1 := ⟨dr_at drL_law_1940 (i := 22) rfl, rfl⟩
theorem dL_1981 : dc code 1981 1984 (.invokevirtual 283) 3 := ⟨dr_at drL_law_1940 (i := 23) rfl, rfl⟩
theorem dL_1984 : dc code 1984 1985 .pop 1 := ⟨dr_at drL_law_1940 (i := 24) rfl, rfl⟩
theorem dL_1985 : dc code 1985 1986 (.aload_n 2) 1 := ⟨dr_at drL_law_1940 (i := 25) rfl, rfl⟩
theorem dL_1986 : dc code 1986 1987 (.aload_n 0) 1 := ⟨dr_at drL_law_1940 (i := 26) rfl, rfl⟩
theorem dL_1987 : dc code 1987 1989 (.iload 4) 2 := ⟨dr_at drL_law_1940 (i := 27) rfl, rfl⟩
theorem dL_1989 : dc code 1989 1990 (.iconst 1) 1 := ⟨dr_at drL_law_1940 (i := 28) rfl, rfl⟩
theorem dL_1990 : dc code 1990 1991 .iadd 1 := ⟨dr_at drL_law_1940 (i := 29) rfl, rfl⟩
theorem dL_1991 : dc code 1991 1992 .iaload 1 := ⟨dr_at drL_law_1940 (i := 30) rfl, rfl⟩
theorem dL_1992 : dc code 1992 1995 (.invokevirtual 286) 3 := ⟨dr_at drL_law_1940 (i := 31) rfl, rfl⟩
theorem dL_1995 : dc code 1995 1996 .pop 1 := ⟨dr_at drL_law_1940 (i := 32) rfl, rfl⟩
theorem dL_1996 : dc code 1996 1999 (.goto 3) 3 := ⟨dr_at drL_law_1940 (i := 33) rfl, rfl⟩
theorem dL_1999 : dc code 1999 2002 (.iinc 4 7) 3 := ⟨dr_at drL_law_1940 (i := 34) rfl, rfl⟩
theorem dL_2002 : dc code 2002 2005 (.goto (-1979)) 3 := ⟨dr_at drL_law_1940 (i := 35) rfl, rfl⟩
theorem dL_2005 : dc code 2005 2006 (.iconst 1) 1 := ⟨dr_at drL_law_1940 (i := 36) rfl, rfl⟩
theorem dL_2006 : dc code 2006 2007 .ireturn 1 := ⟨dr_at drL_law_1940 (i := 37) rfl, rfl⟩
