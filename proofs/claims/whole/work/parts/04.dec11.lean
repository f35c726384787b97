theorem dL_law__1501 : decode cL_law_ 1501 = .ok (.aload_n 0, 1) := by decide +kernel
theorem dL_law__1502 : decode cL_law_ 1502 = .ok (.iload 4, 2) := by decide +kernel
theorem dL_law__1504 : decode cL_law_ 1504 = .ok (.iconst 2, 1) := by decide +kernel
theorem dL_law__1505 : decode cL_law_ 1505 = .ok (.iadd, 1) := by decide +kernel
theorem dL_law__1506 : decode cL_law_ 1506 = .ok (.iaload, 1) := by decide +kernel
theorem dL_law__1507 : decode cL_law_ 1507 = .ok (.aload_n 0, 1) := by decide +kernel
theorem dL_law__1508 : decode cL_law_ 1508 = .ok (.iload 4, 2) := by decide +kernel
theorem dL_law__1510 : decode cL_law_ 1510 = .ok (.iconst 3, 1) := by decide +kernel
theorem dL_law__1511 : decode cL_law_ 1511 = .ok (.iadd, 1) := by decide +kernel
theorem dL_law__1512 : decode cL_law_ 1512 = .ok (.iaload, 1) := by decide +kernel
theorem dL_law__1513 : decode cL_law_ 1513 = .ok (.ifCond .eq 7, 3) := by decide +kernel
theorem dL_law__1516 : decode cL_law_ 1516 = .ok (.iconst 1, 1) := by decide +kernel
theorem dL_law__1517 : decode cL_law_ 1517 = .ok (.goto 4, 3) := by decide +kernel
theorem dL_law__1520 : decode cL_law_ 1520 = .ok (.iconst 0, 1) := by decide +kernel
theorem dL_law__1521 : decode cL_law_ 1521 = .ok (.invokevirtual 233, 3) := by decide +kernel
theorem dL_law__1524 : decode cL_law_ 1524 = .ok (.istore 6, 2) := by decide +kernel
theorem dL_law__1526 : decode cL_law_ 1526 = .ok (.aload_n 2, 1) := by decide +kernel
theorem dL_law__1527 : decode cL_law_ 1527 = .ok (.invokevirtual 174, 3) := by decide +kernel
theorem dL_law__1530 : decode cL_law_ 1530 = .ok (.iload 5, 2) := by decide +kernel
theorem dL_law__1532 : decode cL_law_ 1532 = .ok (.if_icmp .eq 5, 3) := by decide +kernel
theorem dL_law__1535 : decode cL_law_ 1535 = .ok (.iconst 0, 1) := by decide +kernel
theorem dL_law__1536 : decode cL_law_ 1536 = .ok (.ireturn, 1) := by decide +kernel
theorem dL_law__1537 : decode cL_law_ 1537 = .ok (.iload 5, 2) := by decide +kernel
theorem dL_law__1539 : decode cL_law_ 1539 = .ok (.ifCond .ne 15, 3) := by decide +kernel
theorem dL_law__1542 : decode cL_law_ 1542 = .ok (.aload_n 3, 1) := by decide +kernel
theorem dL_law__1543 : decode cL_law_ 1543 = .ok (.iconst 0, 1) := by decide +kernel
theorem dL_law__1544 : decode cL_law_ 1544 = .ok (.laload, 1) := by decide +kernel
theorem dL_law__1545 : decode cL_law_ 1545 = .ok (.iload 6, 2) := by decide +kernel
theorem dL_law__1547 : decode cL_law_ 1547 = .ok (.i2l, 1) := by decide +kernel
theorem dL_law__1548 : decode cL_law_ 1548 = .ok (.lcmp, 1) := by decide +kernel
theorem dL_law__1549 : decode cL_law_ 1549 = .ok (.ifCond .eq 5, 3) := by decide +kernel
theorem dL_law__1552 : decode cL_law_ 1552 = .ok (.iconst 0, 1) := by decide +kernel
theorem dL_law__1553 : decode cL_law_ 1553 = .ok (.ireturn, 1) := by decide +kernel
theorem dL_law__1554 : decode cL_law_ 1554 = .ok (.goto 2033, 3) := by decide +kernel
theorem dL_law__1557 : decode cL_law_ 1557 = .ok (.aload_n 1, 1) := by decide +kernel
theorem dL_law__1558 : decode cL_law_ 1558 = .ok (.aload_n 0, 1) := by decide +kernel
theorem dL_law__1559 : decode cL_law_ 1559 = .ok (.iload 4, 2) := by decide +kernel
theorem dL_law__1561 : decode cL_law_ 1561 = .ok (.iconst 1, 1) := by decide +kernel
theorem dL_law__1562 : decode cL_law_ 1562 = .ok (.iadd, 1) := by decide +kernel
theorem dL_law__1563 : decode cL_law_ 1563 = .ok (.iaload, 1) := by decide +kernel
theorem dL_law__1564 : decode cL_law_ 1564 = .ok (.aload_n 3, 1) := by decide +kernel
theorem dL_law__1565 : decode cL_law_ 1565 = .ok (.invokestatic 234, 3) := by decide +kernel
theorem dL_law__1568 : decode cL_law_ 1568 = .ok (.istore 5, 2) := by decide +kernel
theorem dL_law__1570 : decode cL_law_ 1570 = .ok (.aload_n 2, 1) := by decide +kernel
theorem dL_law__1571 : decode cL_law_ 1571 = .ok (.aload_n 0, 1) := by decide +kernel
theorem dL_law__1572 : decode cL_law_ 1572 = .ok (.iload 4, 2) := by decide +kernel
theorem dL_law__1574 : decode cL_law_ 1574 = .ok (.iconst 1, 1) := by decide +kernel
theorem dL_law__1575 : decode cL_law_ 1575 = .ok (.iadd, 1) := by decide +kernel
theorem dL_law__1576 : decode cL_law_ 1576 = .ok (.iaload, 1) := by decide +kernel
theorem dL_law__1577 : decode cL_law_ 1577 = .ok (.invokevirtual 236, 3) := by decide +kernel
theorem dL_law__1580 : decode cL_law_ 1580 = .ok (.istore 6, 2) := by decide +kernel
theorem dL_law__1582 : decode cL_law_ 1582 = .ok (.aload_n 2, 1) := by decide +kernel
theorem dL_law__1583 : decode cL_law_ 1583 = .ok (.invokevirtual 174, 3) := by decide +kernel
theorem dL_law__1586 : decode cL_law_ 1586 = .ok (.iload 5, 2) := by decide +kernel
theorem dL_law__1588 : decode cL_law_ 1588 = .ok (.if_icmp .eq 5, 3) := by decide +kernel
theorem dL_law__1591 : decode cL_law_ 1591 = .ok (.iconst 0, 1) := by decide +kernel
theorem dL_law__1592 : decode cL_law_ 1592 = .ok (.ireturn, 1) := by decide +kernel
theorem dL_law__1593 : decode cL_law_ 1593 = .ok (.iload 5, 2) := by decide +kernel
theorem dL_law__1595 : decode cL_law_ 1595 = .ok (.ifCond .ne 15, 3) := by decide +kernel
theorem dL_law__1598 : decode cL_law_ 1598 = .ok (.aload_n 3, 1) := by decide +kernel
theorem dL_law__1599 : decode cL_law_ 1599 = .ok (.iconst 0, 1) := by decide +kernel
theorem dL_law__1600 : decode cL_law_ 1600 = .ok (.laload, 1) := by decide +kernel
theorem dL_law__1601 : decode cL_law_ 1601 = .ok (.iload 6, 2) := by decide +kernel
theorem dL_law__1603 : decode cL_law_ 1603 = .ok (.i2l, 1) := by decide +kernel
theorem dL_law__1604 : decode cL_law_ 1604 = .ok (.lcmp, 1) := by decide +kernel
theorem dL_law__1605 : decode cL_law_ 1605 = .ok (.ifCond .eq 5, 3) := by decide +kernel
theorem dL_law__1608 : decode cL_law_ 1608 = .ok (.iconst 0, 1) := by decide +kernel
theorem dL_law__1609 : decode cL_law_ 1609 = .ok (.ireturn, 1) := by decide +kernel
theorem dL_law__1610 : decode cL_law_ 1610 = .ok (.goto 1977, 3) := by decide +kernel
theorem dL_law__1613 : decode cL_law_ 1613 = .ok (.aload_n 1, 1) := by decide +kernel
theorem dL_law__1614 : decode cL_law_ 1614 = .ok (.aload_n 0, 1) := by decide +kernel
theorem dL_law__1615 : decode cL_law_ 1615 = .ok (.iload 4, 2) := by decide +kernel
theorem dL_law__1617 : decode cL_law_ 1617 = .ok (.iconst 1, 1) := by decide +kernel
theorem dL_law__1618 : decode cL_law_ 1618 = .ok (.iadd, 1) := by decide +kernel
theorem dL_law__1619 : decode cL_law_ 1619 = .ok (.iaload, 1) := by decide +kernel
theorem dL_law__1620 : decode cL_law_ 1620 = .ok (.aload_n 0, 1) := by decide +kernel
theorem dL_law__1621 : decode cL_law_ 1621 = .ok (.iload 4, 2) := by decide +kernel
theorem dL_law__1623 : decode cL_law_ 1623 = .ok (.iconst 2, 1) := by decide +kernel
theorem dL_law__1624 : decode cL_law_ 1624 = .ok (.iadd, 1) := by decide +kernel
theorem dL_law__1625 : decode cL_law_ 1625 = .ok (.iaload, 1) := by decide +kernel
theorem dL_law__1626 : decode cL_law_ 1626 = .ok (.aload_n 3, 1) := by decide +kernel
theorem dL_law__1627 : decode cL_law_ 1627 = .ok (.invokestatic 237, 3) := by decide +kernel
theorem dL_law__1630 : decode cL_law_ 1630 = .ok (.istore 5, 2) := by decide +kernel
theorem dL_law__1632 : decode cL_law_ 1632 = .ok (.aload_n 2, 1) := by decide +kernel
theorem dL_law__1633 : decode cL_law_ 1633 = .ok (.aload_n 0, 1) := by decide +kernel
theorem dL_law__1634 : decode cL_law_ 1634 = .ok (.iload 4, 2) := by decide +kernel
theorem dL_law__1636 : decode cL_law_ 1636 = .ok (.iconst 1, 1) := by decide +kernel
theorem dL_law__1637 : decode cL_law_ 1637 = .ok (.iadd, 1) := by decide +kernel
theorem dL_law__1638 : decode cL_law_ 1638 = .ok (.iaload, 1) := by decide +kernel
theorem dL_law__1639 : decode cL_law_ 1639 = .ok (.aload_n 0, 1) := by decide +kernel
theorem dL_law__1640 : decode cL_law_ 1640 = .ok (.iload 4, 2) := by decide +kernel
theorem dL_law__1642 : decode cL_law_ 1642 = .ok (.iconst 2, 1) := by decide +kernel
theorem dL_law__1643 : decode cL_law_ 1643 = .ok (.iadd, 1) := by decide +kernel
theorem dL_law__1644 : decode cL_law_ 1644 = .ok (.iaload, 1) := by decide +kernel
theorem dL_law__1645 : decode cL_law_ 1645 = .ok (.invokevirtual 239, 3) := by decide +kernel
theorem dL_law__1648 : decode cL_law_ 1648 = .ok (.istore 6, 2) := by decide +kernel
theorem dL_law__1650 : decode cL_law_ 1650 = .ok (.aload_n 2, 1) := by decide +kernel
theorem dL_law__1651 : decode cL_law_ 1651 = .ok (.invokevirtual 174, 3) := by decide +kernel
theorem dL_law__1654 : decode cL_law_ 1654 = .ok (.iload 5, 2) := by decide +kernel
theorem dL_law__1656 : decode cL_law_ 1656 = .ok (.if_icmp .eq 5, 3) := by decide +kernel
theorem dL_law__1659 : decode cL_law_ 1659 = .ok (.iconst 0, 1) := by decide +kernel
theorem dL_law__1660 : decode cL_law_ 1660 = .ok (.ireturn, 1) := by decide +kernel
theorem dL_law__1661 : decode cL_law_ 1661 = .ok (.iload 5, 2) := by decide +kernel
theorem dL_law__1663 : decode cL_law_ 1663 = .ok (.ifCond .ne 15, 3) := by decide +kernel
theorem dL_law__1666 : decode cL_law_ 1666 = .ok (.aload_n 3, 1) := by decide +kernel
theorem dL_law__1667 : decode cL_law_ 1667 = .ok (.iconst 0, 1) := by decide +kernel
theorem dL_law__1668 : decode cL_law_ 1668 = .ok (.laload, 1) := by decide +kernel
theorem dL_law__1669 : decode cL_law_ 1669 = .ok (.iload 6, 2) := by decide +kernel
theorem dL_law__1671 : decode cL_law_ 1671 = .ok (.i2l, 1) := by decide +kernel
theorem dL_law__1672 : decode cL_law_ 1672 = .ok (.lcmp, 1) := by decide +kernel
theorem dL_law__1673 : decode cL_law_ 1673 = .ok (.ifCond .eq 5, 3) := by decide +kernel
theorem dL_law__1676 : decode cL_law_ 1676 = .ok (.iconst 0, 1) := by decide +kernel
theorem dL_law__1677 : decode cL_law_ 1677 = .ok (.ireturn, 1) := by decide +kernel
theorem dL_law__1678 : decode cL_law_ 1678 = .ok (.goto 1909, 3) := by decide +kernel
theorem dL_law__1681 : decode cL_law_ 1681 = .ok (.aload_n 1, 1) := by decide +kernel
theorem dL_law__1682 : decode cL_law_ 1682 = .ok (.aload_n 0, 1) := by decide +kernel
theorem dL_law__1683 : decode cL_law_ 1683 = .ok (.iload 4, 2) := by decide +kernel
theorem dL_law__1685 : decode cL_law_ 1685 = .ok (.iconst 1, 1) := by decide +kernel
theorem dL_law__1686 : decode cL_law_ 1686 = .ok (.iadd, 1) := by decide +kernel
theorem dL_law__1687 : decode cL_law_ 1687 = .ok (.iaload, 1) := by decide +kernel
theorem dL_law__1688 : decode cL_law_ 1688 = .ok (.aload_n 0, 1) := by decide +kernel
theorem dL_law__1689 : decode cL_law_ 1689 = .ok (.iload 4, 2) := by decide +kernel
theorem dL_law__1691 : decode cL_law_ 1691 = .ok (.iconst 2, 1) := by decide +kernel
theorem dL_law__1692 : decode cL_law_ 1692 = .ok (.iadd, 1) := by decide +kernel
theorem dL_law__1693 : decode cL_law_ 1693 = .ok (.iaload, 1) := by decide +kernel
theorem dL_law__1694 : decode cL_law_ 1694 = .ok (.aload_n 0, 1) := by decide +kernel
theorem dL_law__1695 : decode cL_law_ 1695 = .ok (.iload 4, 2) := by decide +kernel
theorem dL_law__1697 : decode cL_law_ 1697 = .ok (.iconst 3, 1) := by decide +kernel
theorem dL_law__1698 : decode cL_law_ 1698 = .ok (.iadd, 1) := by decide +kernel
theorem dL_law__1699 : decode cL_law_ 1699 = .ok (.iaload, 1) := by decide +kernel
theorem dL_law__1700 : decode cL_law_ 1700 = .ok (.aload_n 0, 1) := by decide +kernel
theorem dL_law__1701 : decode cL_law_ 1701 = .ok (.iload 4, 2) := by decide +kernel
theorem dL_law__1703 : decode cL_law_ 1703 = .ok (.iconst 4, 1) := by decide +kernel
theorem dL_law__1704 : decode cL_law_ 1704 = .ok (.iadd, 1) := by decide +kernel
theorem dL_law__1705 : decode cL_law_ 1705 = .ok (.iaload, 1) := by decide +kernel
theorem dL_law__1706 : decode cL_law_ 1706 = .ok (.aload_n 0, 1) := by decide +kernel
theorem dL_law__1707 : decode cL_law_ 1707 = .ok (.iload 4, 2) := by decide +kernel
theorem dL_law__1709 : decode cL_law_ 1709 = .ok (.iconst 5, 1) := by decide +kernel
theorem dL_law__1710 : decode cL_law_ 1710 = .ok (.iadd, 1) := by decide +kernel
theorem dL_law__1711 : decode cL_law_ 1711 = .ok (.iaload, 1) := by decide +kernel
theorem dL_law__1712 : decode cL_law_ 1712 = .ok (.ifCond .eq 7, 3) := by decide +kernel
theorem dL_law__1715 : decode cL_law_ 1715 = .ok (.iconst 1, 1) := by decide +kernel
theorem dL_law__1716 : decode cL_law_ 1716 = .ok (.goto 4, 3) := by decide +kernel
theorem dL_law__1719 : decode cL_law_ 1719 = .ok (.iconst 0, 1) := by decide +kernel
theorem dL_law__1720 : decode cL_law_ 1720 = .ok (.aload_n 3, 1) := by decide +kernel
theorem dL_law__1721 : decode cL_law_ 1721 = .ok (.invokestatic 240, 3) := by decide +kernel
theorem dL_law__1724 : decode cL_law_ 1724 = .ok (.istore 5, 2) := by decide +kernel
theorem dL_law__1726 : decode cL_law_ 1726 = .ok (.aload_n 2, 1) := by decide +kernel
theorem dL_law__1727 : decode cL_law_ 1727 = .ok (.aload_n 0, 1) := by decide +kernel
theorem dL_law__1728 : decode cL_law_ 1728 = .ok (.iload 4, 2) := by decide +kernel
theorem dL_law__1730 : decode cL_law_ 1730 = .ok (.iconst 1, 1) := by decide +kernel
theorem dL_law__1731 : decode cL_law_ 1731 = .ok (.iadd, 1) := by decide +kernel
theorem dL_law__1732 : decode cL_law_ 1732 = .ok (.iaload, 1) := by decide +kernel
theorem dL_law__1733 : decode cL_law_ 1733 = .ok (.aload_n 0, 1) := by decide +kernel
theorem dL_law__1734 : decode cL_law_ 1734 = .ok (.iload 4, 2) := by decide +kernel
theorem dL_law__1736 : decode cL_law_ 1736 = .ok (.iconst 2, 1) := by decide +kernel
theorem dL_law__1737 : decode cL_law_ 1737 = .ok (.iadd, 1) := by decide +kernel
theorem dL_law__1738 : decode cL_law_ 1738 = .ok (.iaload, 1) := by decide +kernel
theorem dL_law__1739 : decode cL_law_ 1739 = .ok (.aload_n 0, 1) := by decide +kernel
theorem dL_law__1740 : decode cL_law_ 1740 = .ok (.iload 4, 2) := by decide +kernel
theorem dL_law__1742 : decode cL_law_ 1742 = .ok (.iconst 3, 1) := by decide +kernel
theorem dL_law__1743 : decode cL_law_ 1743 = .ok (.iadd, 1) := by decide +kernel
theorem dL_law__1744 : decode cL_law_ 1744 = .ok (.iaload, 1) := by decide +kernel
theorem dL_law__1745 : decode cL_law_ 1745 = .ok (.aload_n 0, 1) := by decide +kernel
theorem dL_law__1746 : decode cL_law_ 1746 = .ok (.iload 4, 2) := by decide +kernel
theorem dL_law__1748 : decode cL_law_ 1748 = .ok (.iconst 4, 1) := by decide +kernel
theorem dL_law__1749 : decode cL_law_ 1749 = .ok (.iadd, 1) := by decide +kernel
theorem dL_law__1750 : decode cL_law_ 1750 = .ok (.iaload, 1) := by decide +kernel
theorem dL_law__1751 : decode cL_law_ 1751 = .ok (.aload_n 0, 1) := by decide +kernel
theorem dL_law__1752 : decode cL_law_ 1752 = .ok (.iload 4, 2) := by decide +kernel
theorem dL_law__1754 : decode cL_law_ 1754 = .ok (.iconst 5, 1) := by decide +kernel
theorem dL_law__1755 : decode cL_law_ 1755 = .ok (.iadd, 1) := by decide +kernel
theorem dL_law__1756 : decode cL_law_ 1756 = .ok (.iaload, 1) := by decide +kernel
theorem dL_law__1757 : decode cL_law_ 1757 = .ok (.ifCond .eq 7, 3) := by decide +kernel
theorem dL_law__1760 : decode cL_law_ 1760 = .ok (.iconst 1, 1) := by decide +kernel
theorem dL_law__1761 : decode cL_law_ 1761 = .ok (.goto 4, 3) := by decide +kernel
theorem dL_law__1764 : decode cL_law_ 1764 = .ok (.iconst 0, 1) := by decide +kernel
theorem dL_law__1765 : decode cL_law_ 1765 = .ok (.invokevirtual 243, 3) := by decide +kernel
theorem dL_law__1768 : decode cL_law_ 1768 = .ok (.istore 6, 2) := by decide +kernel
theorem dL_law__1770 : decode cL_law_ 1770 = .ok (.aload_n 2, 1) := by decide +kernel
theorem dL_law__1771 : decode cL_law_ 1771 = .ok (.invokevirtual 174, 3) := by decide +kernel
theorem dL_law__1774 : decode cL_law_ 1774 = .ok (.iload 5, 2) := by decide +kernel
theorem dL_law__1776 : decode cL_law_ 1776 = .ok (.if_icmp .eq 5, 3) := by decide +kernel
theorem dL_law__1779 : decode cL_law_ 1779 = .ok (.iconst 0, 1) := by decide +kernel
theorem dL_law__1780 : decode cL_law_ 1780 = .ok (.ireturn, 1) := by decide +kernel
theorem dL_law__1781 : decode cL_law_ 1781 = .ok (.iload 5, 2) := by decide +kernel
theorem dL_law__1783 : decode cL_law_ 1783 = .ok (.ifCond .ne 15, 3) := by decide +kernel
theorem dL_law__1786 : decode cL_law_ 1786 = .ok (.aload_n 3, 1) := by decide +kernel
theorem dL_law__1787 : decode cL_law_ 1787 = .ok (.iconst 0, 1) := by decide +kernel
theorem dL_law__1788 : decode cL_law_ 1788 = .ok (.laload, 1) := by decide +kernel
theorem dL_law__1789 : decode cL_law_ 1789 = .ok (.iload 6, 2) := by decide +kernel
theorem dL_law__1791 : decode cL_law_ 1791 = .ok (.i2l, 1) := by decide +kernel
theorem dL_law__1792 : decode cL_law_ 1792 = .ok (.lcmp, 1) := by decide +kernel
theorem dL_law__1793 : decode cL_law_ 1793 = .ok (.ifCond .eq 5, 3) := by decide +kernel
theorem dL_law__1796 : decode cL_law_ 1796 = .ok (.iconst 0, 1) := by decide +kernel
theorem dL_law__1797 : decode cL_law_ 1797 = .ok (.ireturn, 1) := by decide +kernel
theorem dL_law__1798 : decode cL_law_ 1798 = .ok (.goto 1789, 3) := by decide +kernel
theorem dL_law__1801 : decode cL_law_ 1801 = .ok (.aload_n 1, 1) := by decide +kernel
theorem dL_law__1802 : decode cL_law_ 1802 = .ok (.aload_n 0, 1) := by decide +kernel
theorem dL_law__1803 : decode cL_law_ 1803 = .ok (.iload 4, 2) := by decide +kernel
theorem dL_law__1805 : decode cL_law_ 1805 = .ok (.iconst 1, 1) := by decide +kernel
theorem dL_law__1806 : decode cL_law_ 1806 = .ok (.iadd, 1) := by decide +kernel
theorem dL_law__1807 : decode cL_law_ 1807 = .ok (.iaload, 1) := by decide +kernel
theorem dL_law__1808 : decode cL_law_ 1808 = .ok (.aload_n 0, 1) := by decide +kernel
theorem dL_law__1809 : decode cL_law_ 1809 = .ok (.iload 4, 2) := by decide +kernel
theorem dL_law__1811 : decode cL_law_ 1811 = .ok (.iconst 2, 1) := by decide +kernel
theorem dL_law__1812 : decode cL_law_ 1812 = .ok (.iadd, 1) := by decide +kernel
theorem dL_law__1813 : decode cL_law_ 1813 = .ok (.iaload, 1) := by decide +kernel
theorem dL_law__1814 : decode cL_law_ 1814 = .ok (.aload_n 0, 1) := by decide +kernel
theorem dL_law__1815 : decode cL_law_ 1815 = .ok (.iload 4, 2) := by decide +kernel
theorem dL_law__1817 : decode cL_law_ 1817 = .ok (.iconst 3, 1) := by decide +kernel
theorem dL_law__1818 : decode cL_law_ 1818 = .ok (.iadd, 1) := by decide +kernel
theorem dL_law__1819 : decode cL_law_ 1819 = .ok (.iaload, 1) := by decide +kernel
theorem dL_law__1820 : decode cL_law_ 1820 = .ok (.aload_n 0, 1) := by decide +kernel
theorem dL_law__1821 : decode cL_law_ 1821 = .ok (.iload 4, 2) := by decide +kernel
theorem dL_law__1823 : decode cL_law_ 1823 = .ok (.iconst 4, 1) := by decide +kernel
theorem dL_law__1824 : decode cL_law_ 1824 = .ok (.iadd, 1) := by decide +kernel
theorem dL_law__1825 : decode cL_law_ 1825 = .ok (.iaload, 1) := by decide +kernel
theorem dL_law__1826 : decode cL_law_ 1826 = .ok (.ifCond .eq 7, 3) := by decide +kernel
theorem dL_law__1829 : decode cL_law_ 1829 = .ok (.iconst 1, 1) := by decide +kernel
theorem dL_law__1830 : decode cL_law_ 1830 = .ok (.goto 4, 3) := by decide +kernel
theorem dL_law__1833 : decode cL_law_ 1833 = .ok (.iconst 0, 1) := by decide +kernel
theorem dL_law__1834 : decode cL_law_ 1834 = .ok (.aload_n 3, 1) := by decide +kernel
theorem dL_law__1835 : decode cL_law_ 1835 = .ok (.invokestatic 244, 3) := by decide +kernel
theorem dL_law__1838 : decode cL_law_ 1838 = .ok (.istore 5, 2) := by decide +kernel
theorem dL_law__1840 : decode cL_law_ 1840 = .ok (.aload_n 2, 1) := by decide +kernel
theorem dL_law__1841 : decode cL_law_ 1841 = .ok (.aload_n 0, 1) := by decide +kernel
theorem dL_law__1842 : decode cL_law_ 1842 = .ok (.iload 4, 2) := by decide +kernel
theorem dL_law__1844 : decode cL_law_ 1844 = .ok (.iconst 1, 1) := by decide +kernel
theorem dL_law__1845 : decode cL_law_ 1845 = .ok (.iadd, 1) := by decide +kernel
theorem dL_law__1846 : decode cL_law_ 1846 = .ok (.iaload, 1) := by decide +kernel
theorem dL_law__1847 : decode cL_law_ 1847 = .ok (.aload_n 0, 1) := by decide +kernel
theorem dL_law__1848 : decode cL_law_ 1848 = .ok (.iload 4, 2) := by decide +kernel
theorem dL_law__1850 : decode cL_law_ 1850 = .ok (.iconst 2, 1) := by decide +kernel
theorem dL_law__1851 : decode cL_law_ 1851 = .ok (.iadd, 1) := by decide +kernel
theorem dL_law__1852 : decode cL_law_ 1852 = .ok (.iaload, 1) := by decide +kernel
theorem dL_law__1853 : decode cL_law_ 1853 = .ok (.aload_n 0, 1) := by decide +kernel
theorem dL_law__1854 : decode cL_law_ 1854 = .ok (.iload 4, 2) := by decide +kernel
theorem dL_law__1856 : decode cL_law_ 1856 = .ok (.iconst 3, 1) := by decide +kernel
theorem dL_law__1857 : decode cL_law_ 1857 = .ok (.iadd, 1) := by decide +kernel
theorem dL_law__1858 : decode cL_law_ 1858 = .ok (.iaload, 1) := by decide +kernel
theorem dL_law__1859 : decode cL_law_ 1859 = .ok (.aload_n 0, 1) := by decide +kernel
theorem dL_law__1860 : decode cL_law_ 1860 = .ok (.iload 4, 2) := by decide +kernel
theorem dL_law__1862 : decode cL_law_ 1862 = .ok (.iconst 4, 1) := by decide +kernel
theorem dL_law__1863 : decode cL_law_ 1863 = .ok (.iadd, 1) := by decide +kernel
theorem dL_law__1864 : decode cL_law_ 1864 = .ok (.iaload, 1) := by decide +kernel
theorem dL_law__1865 : decode cL_law_ 1865 = .ok (.ifCond .eq 7, 3) := by decide +kernel
theorem dL_law__1868 : decode cL_law_ 1868 = .ok (.iconst 1, 1) := by decide +kernel
theorem dL_law__1869 : decode cL_law_ 1869 = .ok (.goto 4, 3) := by decide +kernel
theorem dL_law__1872 : decode cL_law_ 1872 = .ok (.iconst 0, 1) := by decide +kernel
theorem dL_law__1873 : decode cL_law_ 1873 = .ok (.invokevirtual 247, 3) := by decide +kernel
theorem dL_law__1876 : decode cL_law_ 1876 = .ok (.istore 6, 2) := by decide +kernel
theorem dL_law__1878 : decode cL_law_ 1878 = .ok (.aload_n 2, 1) := by decide +kernel
theorem dL_law__1879 : decode cL_law_ 1879 = .ok (.invokevirtual 174, 3) := by decide +kernel
theorem dL_law__1882 : decode cL_law_ 1882 = .ok (.iload 5, 2) := by decide +kernel
theorem dL_law__1884 : decode cL_law_ 1884 = .ok (.if_icmp .eq 5, 3) := by decide +kernel
theorem dL_law__1887 : decode cL_law_ 1887 = .ok (.iconst 0, 1) := by decide +kernel
theorem dL_law__1888 : decode cL_law_ 1888 = .ok (.ireturn, 1) := by decide +kernel
theorem dL_law__1889 : decode cL_law_ 1889 = .ok (.iload 5, 2) := by decide +kernel
theorem dL_law__1891 : decode cL_law_ 1891 = .ok (.ifCond .ne 15, 3) := by decide +kernel
theorem dL_law__1894 : decode cL_law_ 1894 = .ok (.aload_n 3, 1) := by decide +kernel
theorem dL_law__1895 : decode cL_law_ 1895 = .ok (.iconst 0, 1) := by decide +kernel
theorem dL_law__1896 : decode cL_law_ 1896 = .ok (.laload, 1) := by decide +kernel
theorem dL_law__1897 : decode cL_law_ 1897 = .ok (.iload 6, 2) := by decide +kernel
theorem dL_law__1899 : decode cL_law_ 1899 = .ok (.i2l, 1) := by decide +kernel
theorem dL_law__1900 : decode cL_law_ 1900 = .ok (.lcmp, 1) := by decide +kernel
theorem dL_law__1901 : decode cL_law_ 1901 = .ok (.ifCond .eq 5, 3) := by decide +kernel
theorem dL_law__1904 : decode cL_law_ 1904 = .ok (.iconst 0, 1) := by decide +kernel
theorem dL_law__1905 : decode cL_law_ 1905 = .ok (.ireturn, 1) := by decide +kernel
theorem dL_law__1906 : decode cL_law_ 1906 = .ok (.goto 1681, 3) := by decide +kernel
theorem dL_law__1909 : decode cL_law_ 1909 = .ok (.aload_n 1, 1) := by decide +kernel
theorem dL_law__1910 : decode cL_law_ 1910 = .ok (.aload_n 0, 1) := by decide +kernel
theorem dL_law__1911 : decode cL_law_ 1911 = .ok (.iload 4, 2) := by decide +kernel
theorem dL_law__1913 : decode cL_law_ 1913 = .ok (.iconst 1, 1) := by decide +kernel
theorem dL_law__1914 : decode cL_law_ 1914 = .ok (.iadd, 1) := by decide +kernel
theorem dL_law__1915 : decode cL_law_ 1915 = .ok (.iaload, 1) := by decide +kernel
theorem dL_law__1916 : decode cL_law_ 1916 = .ok (.aload_n 0, 1) := by decide +kernel
theorem dL_law__1917 : decode cL_law_ 1917 = .ok (.iload 4, 2) := by decide +kernel
theorem dL_law__1919 : decode cL_law_ 1919 = .ok (.iconst 2, 1) := by decide +kernel
theorem dL_law__1920 : decode cL_law_ 1920 = .ok (.iadd, 1) := by decide +kernel
theorem dL_law__1921 : decode cL_law_ 1921 = .ok (.iaload, 1) := by decide +kernel
theorem dL_law__1922 : decode cL_law_ 1922 = .ok (.aload_n 0, 1) := by decide +kernel
theorem dL_law__1923 : decode cL_law_ 1923 = .ok (.iload 4, 2) := by decide +kernel
theorem dL_law__1925 : decode cL_law_ 1925 = .ok (.iconst 3, 1) := by decide +kernel
theorem dL_law__1926 : decode cL_law_ 1926 = .ok (.iadd, 1) := by decide +kernel
theorem dL_law__1927 : decode cL_law_ 1927 = .ok (.iaload, 1) := by decide +kernel
theorem dL_law__1928 : decode cL_law_ 1928 = .ok (.aload_n 0, 1) := by decide +kernel
theorem dL_law__1929 : decode cL_law_ 1929 = .ok (.iload 4, 2) := by decide +kernel
theorem dL_law__1931 : decode cL_law_ 1931 = .ok (.iconst 4, 1) := by decide +kernel
theorem dL_law__1932 : decode cL_law_ 1932 = .ok (.iadd, 1) := by decide +kernel
theorem dL_law__1933 : decode cL_law_ 1933 = .ok (.iaload, 1) := by decide +kernel
theorem dL_law__1934 : decode cL_law_ 1934 = .ok (.ifCond .eq 7, 3) := by decide +kernel
theorem dL_law__1937 : decode cL_law_ 1937 = .ok (.iconst 1, 1) := by decide +kernel
theorem dL_law__1938 : decode cL_law_ 1938 = .ok (.goto 4, 3) := by decide +kernel
theorem dL_law__1941 : decode cL_law_ 1941 = .ok (.iconst 0, 1) := by decide +kernel
theorem dL_law__1942 : decode cL_law_ 1942 = .ok (.aload_n 3, 1) := by decide +kernel
theorem dL_law__1943 : decode cL_law_ 1943 = .ok (.invokestatic 248, 3) := by decide +kernel
theorem dL_law__1946 : decode cL_law_ 1946 = .ok (.istore 5, 2) := by decide +kernel
theorem dL_law__1948 : decode cL_law_ 1948 = .ok (.aload_n 2, 1) := by decide +kernel
theorem dL_law__1949 : decode cL_law_ 1949 = .ok (.aload_n 0, 1) := by decide +kernel
theorem dL_law__1950 : decode cL_law_ 1950 = .ok (.iload 4, 2) := by decide +kernel
theorem dL_law__1952 : decode cL_law_ 1952 = .ok (.iconst 1, 1) := by decide +kernel
theorem dL_law__1953 : decode cL_law_ 1953 = .ok (.iadd, 1) := by decide +kernel
theorem dL_law__1954 : decode cL_law_ 1954 = .ok (.iaload, 1) := by decide +kernel
theorem dL_law__1955 : decode cL_law_ 1955 = .ok (.aload_n 0, 1) := by decide +kernel
theorem dL_law__1956 : decode cL_law_ 1956 = .ok (.iload 4, 2) := by decide +kernel
theorem dL_law__1958 : decode cL_law_ 1958 = .ok (.iconst 2, 1) := by decide +kernel
theorem dL_law__1959 : decode cL_law_ 1959 = .ok (.iadd, 1) := by decide +kernel
theorem dL_law__1960 : decode cL_law_ 1960 = .ok (.iaload, 1) := by decide +kernel
theorem dL_law__1961 : decode cL_law_ 1961 = .ok (.aload_n 0, 1) := by decide +kernel
theorem dL_law__1962 : decode cL_law_ 1962 = .ok (.iload 4, 2) := by decide +kernel
theorem dL_law__1964 : decode cL_law_ 1964 = .ok (.iconst 3, 1) := by decide +kernel
theorem dL_law__1965 : decode cL_law_ 1965 = .ok (.iadd, 1) := by decide +kernel
theorem dL_law__1966 : decode cL_law_ 1966 = .ok (.iaload, 1) := by decide +kernel
theorem dL_law__1967 : decode cL_law_ 1967 = .ok (.aload_n 0, 1) := by decide +kernel
theorem dL_law__1968 : decode cL_law_ 1968 = .ok (.iload 4, 2) := by decide +kernel
theorem dL_law__1970 : decode cL_law_ 1970 = .ok (.iconst 4, 1) := by decide +kernel
theorem dL_law__1971 : decode cL_law_ 1971 = .ok (.iadd, 1) := by decide +kernel
theorem dL_law__1972 : decode cL_law_ 1972 = .ok (.iaload, 1) := by decide +kernel
theorem dL_law__1973 : decode cL_law_ 1973 = .ok (.ifCond .eq 7, 3) := by decide +kernel
theorem dL_law__1976 : decode cL_law_ 1976 = .ok (.iconst 1, 1) := by decide +kernel
theorem dL_law__1977 : decode cL_law_ 1977 = .ok (.goto 4, 3) := by decide +kernel
theorem dL_law__1980 : decode cL_law_ 1980 = .ok (.iconst 0, 1) := by decide +kernel
theorem dL_law__1981 : decode cL_law_ 1981 = .ok (.invokevirtual 250, 3) := by decide +kernel
theorem dL_law__1984 : decode cL_law_ 1984 = .ok (.istore 6, 2) := by decide +kernel
theorem dL_law__1986 : decode cL_law_ 1986 = .ok (.aload_n 2, 1) := by decide +kernel
theorem dL_law__1987 : decode cL_law_ 1987 = .ok (.invokevirtual 174, 3) := by decide +kernel
theorem dL_law__1990 : decode cL_law_ 1990 = .ok (.iload 5, 2) := by decide +kernel
theorem dL_law__1992 : decode cL_law_ 1992 = .ok (.if_icmp .eq 5, 3) := by decide +kernel
theorem dL_law__1995 : decode cL_law_ 1995 = .ok (.iconst 0, 1) := by decide +kernel
theorem dL_law__1996 : decode cL_law_ 1996 = .ok (.ireturn, 1) := by decide +kernel
theorem dL_law__1997 : decode cL_law_ 1997 = .ok (.iload 5, 2) := by decide +kernel
theorem dL_law__1999 : decode cL_law_ 1999 = .ok (.ifCond .ne 15, 3) := by decide +kernel
theorem dL_law__2002 : decode cL_law_ 2002 = .ok (.aload_n 3, 1) := by decide +kernel
theorem dL_law__2003 : decode cL_law_ 2003 = .ok (.iconst 0, 1) := by decide +kernel
theorem dL_law__2004 : decode cL_law_ 2004 = .ok (.laload, 1) := by decide +kernel
theorem dL_law__2005 : decode cL_law_ 2005 = .ok (.iload 6, 2) := by decide +kernel
theorem dL_law__2007 : decode cL_law_ 2007 = .ok (.i2l, 1) := by decide +kernel
theorem dL_law__2008 : decode cL_law_ 2008 = .ok (.lcmp, 1) := by decide +kernel
theorem dL_law__2009 : decode cL_law_ 2009 = .ok (.ifCond .eq 5, 3) := by decide +kernel
theorem dL_law__2012 : decode cL_law_ 2012 = .ok (.iconst 0, 1) := by decide +kernel
theorem dL_law__2013 : decode cL_law_ 2013 = .ok (.ireturn, 1) := by decide +kernel
theorem dL_law__2014 : decode cL_law_ 2014 = .ok (.goto 1573, 3) := by decide +kernel
theorem dL_law__2017 : decode cL_law_ 2017 = .ok (.aload_n 1, 1) := by decide +kernel
theorem dL_law__2018 : decode cL_law_ 2018 = .ok (.aload_n 0, 1) := by decide +kernel
theorem dL_law__2019 : decode cL_law_ 2019 = .ok (.iload 4, 2) := by decide +kernel
theorem dL_law__2021 : decode cL_law_ 2021 = .ok (.iconst 1, 1) := by decide +kernel
theorem dL_law__2022 : decode cL_law_ 2022 = .ok (.iadd, 1) := by decide +kernel
theorem dL_law__2023 : decode cL_law_ 2023 = .ok (.iaload, 1) := by decide +kernel
theorem dL_law__2024 : decode cL_law_ 2024 = .ok (.aload_n 3, 1) := by decide +kernel
theorem dL_law__2025 : decode cL_law_ 2025 = .ok (.invokestatic 251, 3) := by decide +kernel
theorem dL_law__2028 : decode cL_law_ 2028 = .ok (.istore 5, 2) := by decide +kernel
theorem dL_law__2030 : decode cL_law_ 2030 = .ok (.aload_n 2, 1) := by decide +kernel
theorem dL_law__2031 : decode cL_law_ 2031 = .ok (.aload_n 0, 1) := by decide +kernel
theorem dL_law__2032 : decode cL_law_ 2032 = .ok (.iload 4, 2) := by decide +kernel
theorem dL_law__2034 : decode cL_law_ 2034 = .ok (.iconst 1, 1) := by decide +kernel
theorem dL_law__2035 : decode cL_law_ 2035 = .ok (.iadd, 1) := by decide +kernel
theorem dL_law__2036 : decode cL_law_ 2036 = .ok (.iaload, 1) := by decide +kernel
theorem dL_law__2037 : decode cL_law_ 2037 = .ok (.invokevirtual 253, 3) := by decide +kernel
theorem dL_law__2040 : decode cL_law_ 2040 = .ok (.istore 6, 2) := by decide +kernel
theorem dL_law__2042 : decode cL_law_ 2042 = .ok (.aload_n 2, 1) := by decide +kernel
theorem dL_law__2043 : decode cL_law_ 2043 = .ok (.invokevirtual 174, 3) := by decide +kernel
theorem dL_law__2046 : decode cL_law_ 2046 = .ok (.iload 5, 2) := by decide +kernel
theorem dL_law__2048 : decode cL_law_ 2048 = .ok (.if_icmp .eq 5, 3) := by decide +kernel
theorem dL_law__2051 : decode cL_law_ 2051 = .ok (.iconst 0, 1) := by decide +kernel
theorem dL_law__2052 : decode cL_law_ 2052 = .ok (.ireturn, 1) := by decide +kernel
theorem dL_law__2053 : decode cL_law_ 2053 = .ok (.iload 5, 2) := by decide +kernel
theorem dL_law__2055 : decode cL_law_ 2055 = .ok (.ifCond .ne 15, 3) := by decide +kernel
theorem dL_law__2058 : decode cL_law_ 2058 = .ok (.aload_n 3, 1) := by decide +kernel
theorem dL_law__2059 : decode cL_law_ 2059 = .ok (.iconst 0, 1) := by decide +kernel
theorem dL_law__2060 : decode cL_law_ 2060 = .ok (.laload, 1) := by decide +kernel
theorem dL_law__2061 : decode cL_law_ 2061 = .ok (.iload 6, 2) := by decide +kernel
theorem dL_law__2063 : decode cL_law_ 2063 = .ok (.i2l, 1) := by decide +kernel
theorem dL_law__2064 : decode cL_law_ 2064 = .ok (.lcmp, 1) := by decide +kernel
theorem dL_law__2065 : decode cL_law_ 2065 = .ok (.ifCond .eq 5, 3) := by decide +kernel
theorem dL_law__2068 : decode cL_law_ 2068 = .ok (.iconst 0, 1) := by decide +kernel
theorem dL_law__2069 : decode cL_law_ 2069 = .ok (.ireturn, 1) := by decide +kernel
theorem dL_law__2070 : decode cL_law_ 2070 = .ok (.goto 1517, 3) := by decide +kernel
theorem dL_law__2073 : decode cL_law_ 2073 = .ok (.aload_n 1, 1) := by decide +kernel
theorem dL_law__2074 : decode cL_law_ 2074 = .ok (.aload_n 0, 1) := by decide +kernel
theorem dL_law__2075 : decode cL_law_ 2075 = .ok (.iload 4, 2) := by decide +kernel
theorem dL_law__2077 : decode cL_law_ 2077 = .ok (.iconst 1, 1) := by decide +kernel
theorem dL_law__2078 : decode cL_law_ 2078 = .ok (.iadd, 1) := by decide +kernel
theorem dL_law__2079 : decode cL_law_ 2079 = .ok (.iaload, 1) := by decide +kernel
theorem dL_law__2080 : decode cL_law_ 2080 = .ok (.aload_n 3, 1) := by decide +kernel
theorem dL_law__2081 : decode cL_law_ 2081 = .ok (.invokestatic 254, 3) := by decide +kernel
theorem dL_law__2084 : decode cL_law_ 2084 = .ok (.istore 5, 2) := by decide +kernel
theorem dL_law__2086 : decode cL_law_ 2086 = .ok (.aload_n 2, 1) := by decide +kernel
theorem dL_law__2087 : decode cL_law_ 2087 = .ok (.aload_n 0, 1) := by decide +kernel
theorem dL_law__2088 : decode cL_law_ 2088 = .ok (.iload 4, 2) := by decide +kernel
theorem dL_law__2090 : decode cL_law_ 2090 = .ok (.iconst 1, 1) := by decide +kernel
theorem dL_law__2091 : decode cL_law_ 2091 = .ok (.iadd, 1) := by decide +kernel
theorem dL_law__2092 : decode cL_law_ 2092 = .ok (.iaload, 1) := by decide +kernel
theorem dL_law__2093 : decode cL_law_ 2093 = .ok (.invokevirtual 256, 3) := by decide +kernel
theorem dL_law__2096 : decode cL_law_ 2096 = .ok (.istore 6, 2) := by decide +kernel
theorem dL_law__2098 : decode cL_law_ 2098 = .ok (.aload_n 2, 1) := by decide +kernel
theorem dL_law__2099 : decode cL_law_ 2099 = .ok (.invokevirtual 174, 3) := by decide +kernel
theorem dL_law__2102 : decode cL_law_ 2102 = .ok (.iload 5, 2) := by decide +kernel
theorem dL_law__2104 : decode cL_law_ 2104 = .ok (.if_icmp .eq 5, 3) := by decide +kernel
theorem dL_law__2107 : decode cL_law_ 2107 = .ok (.iconst 0, 1) := by decide +kernel
theorem dL_law__2108 : decode cL_law_ 2108 = .ok (.ireturn, 1) := by decide +kernel
theorem dL_law__2109 : decode cL_law_ 2109 = .ok (.iload 5, 2) := by decide +kernel
theorem dL_law__2111 : decode cL_law_ 2111 = .ok (.ifCond .ne 15, 3) := by decide +kernel
theorem dL_law__2114 : decode cL_law_ 2114 = .ok (.aload_n 3, 1) := by decide +kernel
theorem dL_law__2115 : decode cL_law_ 2115 = .ok (.iconst 0, 1) := by decide +kernel
theorem dL_law__2116 : decode cL_law_ 2116 = .ok (.laload, 1) := by decide +kernel
theorem dL_law__2117 : decode cL_law_ 2117 = .ok (.iload 6, 2) := by decide +kernel
theorem dL_law__2119 : decode cL_law_ 2119 = .ok (.i2l, 1) := by decide +kernel
theorem dL_law__2120 : decode cL_law_ 2120 = .ok (.lcmp, 1) := by decide +kernel
theorem dL_law__2121 : decode cL_law_ 2121 = .ok (.ifCond .eq 5, 3) := by decide +kernel
theorem dL_law__2124 : decode cL_law_ 2124 = .ok (.iconst 0, 1) := by decide +kernel
theorem dL_law__2125 : decode cL_law_ 2125 = .ok (.ireturn, 1) := by decide +kernel
theorem dL_law__2126 : decode cL_law_ 2126 = .ok (.goto 1461, 3) := by decide +kernel
theorem dL_law__2129 : decode cL_law_ 2129 = .ok (.aload_n 1, 1) := by decide +kernel
theorem dL_law__2130 : decode cL_law_ 2130 = .ok (.aload_n 0, 1) := by decide +kernel
theorem dL_law__2131 : decode cL_law_ 2131 = .ok (.iload 4, 2) := by decide +kernel
theorem dL_law__2133 : decode cL_law_ 2133 = .ok (.iconst 1, 1) := by decide +kernel
theorem dL_law__2134 : decode cL_law_ 2134 = .ok (.iadd, 1) := by decide +kernel
theorem dL_law__2135 : decode cL_law_ 2135 = .ok (.iaload, 1) := by decide +kernel
theorem dL_law__2136 : decode cL_law_ 2136 = .ok (.aload_n 3, 1) := by decide +kernel
theorem dL_law__2137 : decode cL_law_ 2137 = .ok (.invokestatic 257, 3) := by decide +kernel
theorem dL_law__2140 : decode cL_law_ 2140 = .ok (.istore 5, 2) := by decide +kernel
theorem dL_law__2142 : decode cL_law_ 2142 = .ok (.aload_n 2, 1) := by decide +kernel
theorem dL_law__2143 : decode cL_law_ 2143 = .ok (.aload_n 0, 1) := by decide +kernel
theorem dL_law__2144 : decode cL_law_ 2144 = .ok (.iload 4, 2) := by decide +kernel
theorem dL_law__2146 : decode cL_law_ 2146 = .ok (.iconst 1, 1) := by decide +kernel
theorem dL_law__2147 : decode cL_law_ 2147 = .ok (.iadd, 1) := by decide +kernel
theorem dL_law__2148 : decode cL_law_ 2148 = .ok (.iaload, 1) := by decide +kernel
theorem dL_law__2149 : decode cL_law_ 2149 = .ok (.invokevirtual 259, 3) := by decide +kernel
theorem dL_law__2152 : decode cL_law_ 2152 = .ok (.istore 6, 2) := by decide +kernel
theorem dL_law__2154 : decode cL_law_ 2154 = .ok (.aload_n 2, 1) := by decide +kernel
theorem dL_law__2155 : decode cL_law_ 2155 = .ok (.invokevirtual 174, 3) := by decide +kernel
theorem dL_law__2158 : decode cL_law_ 2158 = .ok (.iload 5, 2) := by decide +kernel
theorem dL_law__2160 : decode cL_law_ 2160 = .ok (.if_icmp .eq 5, 3) := by decide +kernel
theorem dL_law__2163 : decode cL_law_ 2163 = .ok (.iconst 0, 1) := by decide +kernel
theorem dL_law__2164 : decode cL_law_ 2164 = .ok (.ireturn, 1) := by decide +kernel
theorem dL_law__2165 : decode cL_law_ 2165 = .ok (.iload 5, 2) := by decide +kernel
theorem dL_law__2167 : decode cL_law_ 2167 = .ok (.ifCond .ne 15, 3) := by decide +kernel
theorem dL_law__2170 : decode cL_law_ 2170 = .ok (.aload_n 3, 1) := by decide +kernel
theorem dL_law__2171 : decode cL_law_ 2171 = .ok (.iconst 0, 1) := by decide +kernel
theorem dL_law__2172 : decode cL_law_ 2172 = .ok (.laload, 1) := by decide +kernel
theorem dL_law__2173 : decode cL_law_ 2173 = .ok (.iload 6, 2) := by decide +kernel
theorem dL_law__2175 : decode cL_law_ 2175 = .ok (.i2l, 1) := by decide +kernel
theorem dL_law__2176 : decode cL_law_ 2176 = .ok (.lcmp, 1) := by decide +kernel
theorem dL_law__2177 : decode cL_law_ 2177 = .ok (.ifCond .eq 5, 3) := by decide +kernel
theorem dL_law__2180 : decode cL_law_ 2180 = .ok (.iconst 0, 1) := by decide +kernel
theorem dL_law__2181 : decode cL_law_ 2181 = .ok (.ireturn, 1) := by decide +kernel
theorem dL_law__2182 : decode cL_law_ 2182 = .ok (.goto 1405, 3) := by decide +kernel
theorem dL_law__2185 : decode cL_law_ 2185 = .ok (.aload_n 1, 1) := by decide +kernel
theorem dL_law__2186 : decode cL_law_ 2186 = .ok (.aload_n 0, 1) := by decide +kernel
theorem dL_law__2187 : decode cL_law_ 2187 = .ok (.iload 4, 2) := by decide +kernel
theorem dL_law__2189 : decode cL_law_ 2189 = .ok (.iconst 1, 1) := by decide +kernel
theorem dL_law__2190 : decode cL_law_ 2190 = .ok (.iadd, 1) := by decide +kernel
theorem dL_law__2191 : decode cL_law_ 2191 = .ok (.iaload, 1) := by decide +kernel
theorem dL_law__2192 : decode cL_law_ 2192 = .ok (.aload_n 0, 1) := by decide +kernel
theorem dL_law__2193 : decode cL_law_ 2193 = .ok (.iload 4, 2) := by decide +kernel
theorem dL_law__2195 : decode cL_law_ 2195 = .ok (.iconst 2, 1) := by decide +kernel
theorem dL_law__2196 : decode cL_law_ 2196 = .ok (.iadd, 1) := by decide +kernel
theorem dL_law__2197 : decode cL_law_ 2197 = .ok (.iaload, 1) := by decide +kernel
theorem dL_law__2198 : decode cL_law_ 2198 = .ok (.aload_n 0, 1) := by decide +kernel
theorem dL_law__2199 : decode cL_law_ 2199 = .ok (.iload 4, 2) := by decide +kernel
theorem dL_law__2201 : decode cL_law_ 2201 = .ok (.iconst 3, 1) := by decide +kernel
theorem dL_law__2202 : decode cL_law_ 2202 = .ok (.iadd, 1) := by decide +kernel
theorem dL_law__2203 : decode cL_law_ 2203 = .ok (.iaload, 1) := by decide +kernel
theorem dL_law__2204 : decode cL_law_ 2204 = .ok (.ifCond .eq 7, 3) := by decide +kernel
theorem dL_law__2207 : decode cL_law_ 2207 = .ok (.iconst 1, 1) := by decide +kernel
theorem dL_law__2208 : decode cL_law_ 2208 = .ok (.goto 4, 3) := by decide +kernel
theorem dL_law__2211 : decode cL_law_ 2211 = .ok (.iconst 0, 1) := by decide +kernel
theorem dL_law__2212 : decode cL_law_ 2212 = .ok (.aload_n 3, 1) := by decide +kernel
theorem dL_law__2213 : decode cL_law_ 2213 = .ok (.invokestatic 260, 3) := by decide +kernel
theorem dL_law__2216 : decode cL_law_ 2216 = .ok (.istore 5, 2) := by decide +kernel
theorem dL_law__2218 : decode cL_law_ 2218 = .ok (.aload_n 2, 1) := by decide +kernel
theorem dL_law__2219 : decode cL_law_ 2219 = .ok (.aload_n 0, 1) := by decide +kernel
theorem dL_law__2220 : decode cL_law_ 2220 = .ok (.iload 4, 2) := by decide +kernel
theorem dL_law__2222 : decode cL_law_ 2222 = .ok (.iconst 1, 1) := by decide +kernel
theorem dL_law__2223 : decode cL_law_ 2223 = .ok (.iadd, 1) := by decide +kernel
theorem dL_law__2224 : decode cL_law_ 2224 = .ok (.iaload, 1) := by decide +kernel
theorem dL_law__2225 : decode cL_law_ 2225 = .ok (.aload_n 0, 1) := by decide +kernel
theorem dL_law__2226 : decode cL_law_ 2226 = .ok (.iload 4, 2) := by decide +kernel
theorem dL_law__2228 : decode cL_law_ 2228 = .ok (.iconst 2, 1) := by decide +kernel
theorem dL_law__2229 : decode cL_law_ 2229 = .ok (.iadd, 1) := by decide +kernel
theorem dL_law__2230 : decode cL_law_ 2230 = .ok (.iaload, 1) := by decide +kernel
theorem dL_law__2231 : decode cL_law_ 2231 = .ok (.aload_n 0, 1) := by decide +kernel
theorem dL_law__2232 : decode cL_law_ 2232 = .ok (.iload 4, 2) := by decide +kernel
theorem dL_law__2234 : decode cL_law_ 2234 = .ok (.iconst 3, 1) := by decide +kernel
theorem dL_law__2235 : decode cL_law_ 2235 = .ok (.iadd, 1) := by decide +kernel
theorem dL_law__2236 : decode cL_law_ 2236 = .ok (.iaload, 1) := by decide +kernel
theorem dL_law__2237 : decode cL_law_ 2237 = .ok (.ifCond .eq 7, 3) := by decide +kernel
theorem dL_law__2240 : decode cL_law_ 2240 = .ok (.iconst 1, 1) := by decide +kernel
theorem dL_law__2241 : decode cL_law_ 2241 = .ok (.goto 4, 3) := by decide +kernel
theorem dL_law__2244 : decode cL_law_ 2244 = .ok (.iconst 0, 1) := by decide +kernel
theorem dL_law__2245 : decode cL_law_ 2245 = .ok (.invokevirtual 262, 3) := by decide +kernel
theorem dL_law__2248 : decode cL_law_ 2248 = .ok (.istore 6, 2) := by decide +kernel
theorem dL_law__2250 : decode cL_law_ 2250 = .ok (.aload_n 2, 1) := by decide +kernel
theorem dL_law__2251 : decode cL_law_ 2251 = .ok (.invokevirtual 174, 3) := by decide +kernel
theorem dL_law__2254 : decode cL_law_ 2254 = .ok (.iload 5, 2) := by decide +kernel
theorem dL_law__2256 : decode cL_law_ 2256 = .ok (.if_icmp .eq 5, 3) := by decide +kernel
theorem dL_law__2259 : decode cL_law_ 2259 = .ok (.iconst 0, 1) := by decide +kernel
theorem dL_law__2260 : decode cL_law_ 2260 = .ok (.ireturn, 1) := by decide +kernel
theorem dL_law__2261 : decode cL_law_ 2261 = .ok (.iload 5, 2) := by decide +kernel
theorem dL_law__2263 : decode cL_law_ 2263 = .ok (.ifCond .ne 15, 3) := by decide +kernel
theorem dL_law__2266 : decode cL_law_ 2266 = .ok (.aload_n 3, 1) := by decide +kernel
theorem dL_law__2267 : decode cL_law_ 2267 = .ok (.iconst 0, 1) := by decide +kernel
theorem dL_law__2268 : decode cL_law_ 2268 = .ok (.laload, 1) := by decide +kernel
theorem dL_law__2269 : decode cL_law_ 2269 = .ok (.iload 6, 2) := by decide +kernel
theorem dL_law__2271 : decode cL_law_ 2271 = .ok (.i2l, 1) := by decide +kernel
theorem dL_law__2272 : decode cL_law_ 2272 = .ok (.lcmp, 1) := by decide +kernel
theorem dL_law__2273 : decode cL_law_ 2273 = .ok (.ifCond .eq 5, 3) := by decide +kernel
theorem dL_law__2276 : decode cL_law_ 2276 = .ok (.iconst 0, 1) := by decide +kernel
theorem dL_law__2277 : decode cL_law_ 2277 = .ok (.ireturn, 1) := by decide +kernel
theorem dL_law__2278 : decode cL_law_ 2278 = .ok (.goto 1309, 3) := by decide +kernel
theorem dL_law__2281 : decode cL_law_ 2281 = .ok (.aload_n 1, 1) := by decide +kernel
theorem dL_law__2282 : decode cL_law_ 2282 = .ok (.aload_n 0, 1) := by decide +kernel
theorem dL_law__2283 : decode cL_law_ 2283 = .ok (.iload 4, 2) := by decide +kernel
theorem dL_law__2285 : decode cL_law_ 2285 = .ok (.iconst 1, 1) := by decide +kernel
theorem dL_law__2286 : decode cL_law_ 2286 = .ok (.iadd, 1) := by decide +kernel
theorem dL_law__2287 : decode cL_law_ 2287 = .ok (.iaload, 1) := by decide +kernel
theorem dL_law__2288 : decode cL_law_ 2288 = .ok (.aload_n 0, 1) := by decide +kernel
theorem dL_law__2289 : decode cL_law_ 2289 = .ok (.iload 4, 2) := by decide +kernel
theorem dL_law__2291 : decode cL_law_ 2291 = .ok (.iconst 2, 1) := by decide +kernel
theorem dL_law__2292 : decode cL_law_ 2292 = .ok (.iadd, 1) := by decide +kernel
theorem dL_law__2293 : decode cL_law_ 2293 = .ok (.iaload, 1) := by decide +kernel
theorem dL_law__2294 : decode cL_law_ 2294 = .ok (.aload_n 3, 1) := by decide +kernel
theorem dL_law__2295 : decode cL_law_ 2295 = .ok (.invokestatic 263, 3) := by decide +kernel
theorem dL_law__2298 : decode cL_law_ 2298 = .ok (.istore 5, 2) := by decide +kernel
theorem dL_law__2300 : decode cL_law_ 2300 = .ok (.aload_n 2, 1) := by decide +kernel
theorem dL_law__2301 : decode cL_law_ 2301 = .ok (.aload_n 0, 1) := by decide +kernel
theorem dL_law__2302 : decode cL_law_ 2302 = .ok (.iload 4, 2) := by decide +kernel
theorem dL_law__2304 : decode cL_law_ 2304 = .ok (.iconst 1, 1) := by decide +kernel
theorem dL_law__2305 : decode cL_law_ 2305 = .ok (.iadd, 1) := by decide +kernel
theorem dL_law__2306 : decode cL_law_ 2306 = .ok (.iaload, 1) := by decide +kernel
theorem dL_law__2307 : decode cL_law_ 2307 = .ok (.aload_n 0, 1) := by decide +kernel
theorem dL_law__2308 : decode cL_law_ 2308 = .ok (.iload 4, 2) := by decide +kernel
theorem dL_law__2310 : decode cL_law_ 2310 = .ok (.iconst 2, 1) := by decide +kernel
theorem dL_law__2311 : decode cL_law_ 2311 = .ok (.iadd, 1) := by decide +kernel
theorem dL_law__2312 : decode cL_law_ 2312 = .ok (.iaload, 1) := by decide +kernel
theorem dL_law__2313 : decode cL_law_ 2313 = .ok (.invokevirtual 265, 3) := by decide +kernel
theorem dL_law__2316 : decode cL_law_ 2316 = .ok (.istore 6, 2) := by decide +kernel
theorem dL_law__2318 : decode cL_law_ 2318 = .ok (.aload_n 2, 1) := by decide +kernel
theorem dL_law__2319 : decode cL_law_ 2319 = .ok (.invokevirtual 174, 3) := by decide +kernel
theorem dL_law__2322 : decode cL_law_ 2322 = .ok (.iload 5, 2) := by decide +kernel
theorem dL_law__2324 : decode cL_law_ 2324 = .ok (.if_icmp .eq 5, 3) := by decide +kernel
theorem dL_law__2327 : decode cL_law_ 2327 = .ok (.iconst 0, 1) := by decide +kernel
theorem dL_law__2328 : decode cL_law_ 2328 = .ok (.ireturn, 1) := by decide +kernel
theorem dL_law__2329 : decode cL_law_ 2329 = .ok (.iload 5, 2) := by decide +kernel
theorem dL_law__2331 : decode cL_law_ 2331 = .ok (.ifCond .ne 15, 3) := by decide +kernel
theorem dL_law__2334 : decode cL_law_ 2334 = .ok (.aload_n 3, 1) := by decide +kernel
theorem dL_law__2335 : decode cL_law_ 2335 = .ok (.iconst 0, 1) := by decide +kernel
theorem dL_law__2336 : decode cL_law_ 2336 = .ok (.laload, 1) := by decide +kernel
theorem dL_law__2337 : decode cL_law_ 2337 = .ok (.iload 6, 2) := by decide +kernel
theorem dL_law__2339 : decode cL_law_ 2339 = .ok (.i2l, 1) := by decide +kernel
theorem dL_law__2340 : decode cL_law_ 2340 = .ok (.lcmp, 1) := by decide +kernel
theorem dL_law__2341 : decode cL_law_ 2341 = .ok (.ifCond .eq 5, 3) := by decide +kernel
theorem dL_law__2344 : decode cL_law_ 2344 = .ok (.iconst 0, 1) := by decide +kernel
theorem dL_law__2345 : decode cL_law_ 2345 = .ok (.ireturn, 1) := by decide +kernel
theorem dL_law__2346 : decode cL_law_ 2346 = .ok (.goto 1241, 3) := by decide +kernel
theorem dL_law__2349 : decode cL_law_ 2349 = .ok (.aload_n 1, 1) := by decide +kernel
theorem dL_law__2350 : decode cL_law_ 2350 = .ok (.invokevirtual 266, 3) := by decide +kernel
theorem dL_law__2353 : decode cL_law_ 2353 = .ok (.aload_n 2, 1) := by decide +kernel
theorem dL_law__2354 : decode cL_law_ 2354 = .ok (.invokevirtual 269, 3) := by decide +kernel
theorem dL_law__2357 : decode cL_law_ 2357 = .ok (.if_icmp .eq 1230, 3) := by decide +kernel
theorem dL_law__2360 : decode cL_law_ 2360 = .ok (.iconst 0, 1) := by decide +kernel
theorem dL_law__2361 : decode cL_law_ 2361 = .ok (.ireturn, 1) := by decide +kernel
theorem dL_law__2362 : decode cL_law_ 2362 = .ok (.aload_n 1, 1) := by decide +kernel
theorem dL_law__2363 : decode cL_law_ 2363 = .ok (.aload_n 0, 1) := by decide +kernel
theorem dL_law__2364 : decode cL_law_ 2364 = .ok (.iload 4, 2) := by decide +kernel
theorem dL_law__2366 : decode cL_law_ 2366 = .ok (.iconst 1, 1) := by decide +kernel
theorem dL_law__2367 : decode cL_law_ 2367 = .ok (.iadd, 1) := by decide +kernel
theorem dL_law__2368 : decode cL_law_ 2368 = .ok (.iaload, 1) := by decide +kernel
theorem dL_law__2369 : decode cL_law_ 2369 = .ok (.aload_n 0, 1) := by decide +kernel
theorem dL_law__2370 : decode cL_law_ 2370 = .ok (.iload 4, 2) := by decide +kernel
theorem dL_law__2372 : decode cL_law_ 2372 = .ok (.iconst 2, 1) := by decide +kernel
theorem dL_law__2373 : decode cL_law_ 2373 = .ok (.iadd, 1) := by decide +kernel
theorem dL_law__2374 : decode cL_law_ 2374 = .ok (.iaload, 1) := by decide +kernel
theorem dL_law__2375 : decode cL_law_ 2375 = .ok (.aload_n 3, 1) := by decide +kernel
theorem dL_law__2376 : decode cL_law_ 2376 = .ok (.invokestatic 270, 3) := by decide +kernel
theorem dL_law__2379 : decode cL_law_ 2379 = .ok (.istore 5, 2) := by decide +kernel
theorem dL_law__2381 : decode cL_law_ 2381 = .ok (.aload_n 2, 1) := by decide +kernel
theorem dL_law__2382 : decode cL_law_ 2382 = .ok (.aload_n 0, 1) := by decide +kernel
theorem dL_law__2383 : decode cL_law_ 2383 = .ok (.iload 4, 2) := by decide +kernel
theorem dL_law__2385 : decode cL_law_ 2385 = .ok (.iconst 1, 1) := by decide +kernel
theorem dL_law__2386 : decode cL_law_ 2386 = .ok (.iadd, 1) := by decide +kernel
theorem dL_law__2387 : decode cL_law_ 2387 = .ok (.iaload, 1) := by decide +kernel
theorem dL_law__2388 : decode cL_law_ 2388 = .ok (.aload_n 0, 1) := by decide +kernel
theorem dL_law__2389 : decode cL_law_ 2389 = .ok (.iload 4, 2) := by decide +kernel
theorem dL_law__2391 : decode cL_law_ 2391 = .ok (.iconst 2, 1) := by decide +kernel
theorem dL_law__2392 : decode cL_law_ 2392 = .ok (.iadd, 1) := by decide +kernel
theorem dL_law__2393 : decode cL_law_ 2393 = .ok (.iaload, 1) := by decide +kernel
theorem dL_law__2394 : decode cL_law_ 2394 = .ok (.invokevirtual 272, 3) := by decide +kernel
theorem dL_law__2397 : decode cL_law_ 2397 = .ok (.istore 6, 2) := by decide +kernel
theorem dL_law__2399 : decode cL_law_ 2399 = .ok (.aload_n 2, 1) := by decide +kernel
theorem dL_law__2400 : decode cL_law_ 2400 = .ok (.invokevirtual 174, 3) := by decide +kernel
theorem dL_law__2403 : decode cL_law_ 2403 = .ok (.iload 5, 2) := by decide +kernel
theorem dL_law__2405 : decode cL_law_ 2405 = .ok (.if_icmp .eq 5, 3) := by decide +kernel
theorem dL_law__2408 : decode cL_law_ 2408 = .ok (.iconst 0, 1) := by decide +kernel
theorem dL_law__2409 : decode cL_law_ 2409 = .ok (.ireturn, 1) := by decide +kernel
theorem dL_law__2410 : decode cL_law_ 2410 = .ok (.iload 5, 2) := by decide +kernel
theorem dL_law__2412 : decode cL_law_ 2412 = .ok (.ifCond .ne 15, 3) := by decide +kernel
theorem dL_law__2415 : decode cL_law_ 2415 = .ok (.aload_n 3, 1) := by decide +kernel
theorem dL_law__2416 : decode cL_law_ 2416 = .ok (.iconst 0, 1) := by decide +kernel
theorem dL_law__2417 : decode cL_law_ 2417 = .ok (.laload, 1) := by decide +kernel
theorem dL_law__2418 : decode cL_law_ 2418 = .ok (.iload 6, 2) := by decide +kernel
theorem dL_law__2420 : decode cL_law_ 2420 = .ok (.i2l, 1) := by decide +kernel
theorem dL_law__2421 : decode cL_law_ 2421 = .ok (.lcmp, 1) := by decide +kernel
theorem dL_law__2422 : decode cL_law_ 2422 = .ok (.ifCond .eq 5, 3) := by decide +kernel
theorem dL_law__2425 : decode cL_law_ 2425 = .ok (.iconst 0, 1) := by decide +kernel
theorem dL_law__2426 : decode cL_law_ 2426 = .ok (.ireturn, 1) := by decide +kernel
theorem dL_law__2427 : decode cL_law_ 2427 = .ok (.goto 1160, 3) := by decide +kernel
theorem dL_law__2430 : decode cL_law_ 2430 = .ok (.aload_n 1, 1) := by decide +kernel
theorem dL_law__2431 : decode cL_law_ 2431 = .ok (.aload_n 0, 1) := by decide +kernel
theorem dL_law__2432 : decode cL_law_ 2432 = .ok (.iload 4, 2) := by decide +kernel
theorem dL_law__2434 : decode cL_law_ 2434 = .ok (.iconst 1, 1) := by decide +kernel
theorem dL_law__2435 : decode cL_law_ 2435 = .ok (.iadd, 1) := by decide +kernel
theorem dL_law__2436 : decode cL_law_ 2436 = .ok (.iaload, 1) := by decide +kernel
theorem dL_law__2437 : decode cL_law_ 2437 = .ok (.aload_n 0, 1) := by decide +kernel
theorem dL_law__2438 : decode cL_law_ 2438 = .ok (.iload 4, 2) := by decide +kernel
theorem dL_law__2440 : decode cL_law_ 2440 = .ok (.iconst 2, 1) := by decide +kernel
theorem dL_law__2441 : decode cL_law_ 2441 = .ok (.iadd, 1) := by decide +kernel
theorem dL_law__2442 : decode cL_law_ 2442 = .ok (.iaload, 1) := by decide +kernel
theorem dL_law__2443 : decode cL_law_ 2443 = .ok (.aload_n 3, 1) := by decide +kernel
theorem dL_law__2444 : decode cL_law_ 2444 = .ok (.invokestatic 273, 3) := by decide +kernel
theorem dL_law__2447 : decode cL_law_ 2447 = .ok (.istore 5, 2) := by decide +kernel
theorem dL_law__2449 : decode cL_law_ 2449 = .ok (.aload_n 2, 1) := by decide +kernel
theorem dL_law__2450 : decode cL_law_ 2450 = .ok (.aload_n 0, 1) := by decide +kernel
theorem dL_law__2451 : decode cL_law_ 2451 = .ok (.iload 4, 2) := by decide +kernel
theorem dL_law__2453 : decode cL_law_ 2453 = .ok (.iconst 1, 1) := by decide +kernel
theorem dL_law__2454 : decode cL_law_ 2454 = .ok (.iadd, 1) := by decide +kernel
theorem dL_law__2455 : decode cL_law_ 2455 = .ok (.iaload, 1) := by decide +kernel
theorem dL_law__2456 : decode cL_law_ 2456 = .ok (.aload_n 0, 1) := by decide +kernel
theorem dL_law__2457 : decode cL_law_ 2457 = .ok (.iload 4, 2) := by decide +kernel
theorem dL_law__2459 : decode cL_law_ 2459 = .ok (.iconst 2, 1) := by decide +kernel
theorem dL_law__2460 : decode cL_law_ 2460 = .ok (.iadd, 1) := by decide +kernel
theorem dL_law__2461 : decode cL_law_ 2461 = .ok (.iaload, 1) := by decide +kernel
theorem dL_law__2462 : decode cL_law_ 2462 = .ok (.invokevirtual 275, 3) := by decide +kernel
theorem dL_law__2465 : decode cL_law_ 2465 = .ok (.istore 6, 2) := by decide +kernel
theorem dL_law__2467 : decode cL_law_ 2467 = .ok (.aload_n 2, 1) := by decide +kernel
theorem dL_law__2468 : decode cL_law_ 2468 = .ok (.invokevirtual 174, 3) := by decide +kernel
theorem dL_law__2471 : decode cL_law_ 2471 = .ok (.iload 5, 2) := by decide +kernel
theorem dL_law__2473 : decode cL_law_ 2473 = .ok (.if_icmp .eq 5, 3) := by decide +kernel
theorem dL_law__2476 : decode cL_law_ 2476 = .ok (.iconst 0, 1) := by decide +kernel
theorem dL_law__2477 : decode cL_law_ 2477 = .ok (.ireturn, 1) := by decide +kernel
theorem dL_law__2478 : decode cL_law_ 2478 = .ok (.iload 5, 2) := by decide +kernel
theorem dL_law__2480 : decode cL_law_ 2480 = .ok (.ifCond .ne 15, 3) := by decide +kernel
theorem dL_law__2483 : decode cL_law_ 2483 = .ok (.aload_n 3, 1) := by decide +kernel
theorem dL_law__2484 : decode cL_law_ 2484 = .ok (.iconst 0, 1) := by decide +kernel
theorem dL_law__2485 : decode cL_law_ 2485 = .ok (.laload, 1) := by decide +kernel
theorem dL_law__2486 : decode cL_law_ 2486 = .ok (.iload 6, 2) := by decide +kernel
theorem dL_law__2488 : decode cL_law_ 2488 = .ok (.i2l, 1) := by decide +kernel
theorem dL_law__2489 : decode cL_law_ 2489 = .ok (.lcmp, 1) := by decide +kernel
theorem dL_law__2490 : decode cL_law_ 2490 = .ok (.ifCond .eq 5, 3) := by decide +kernel
theorem dL_law__2493 : decode cL_law_ 2493 = .ok (.iconst 0, 1) := by decide +kernel
theorem dL_law__2494 : decode cL_law_ 2494 = .ok (.ireturn, 1) := by decide +kernel
theorem dL_law__2495 : decode cL_law_ 2495 = .ok (.goto 1092, 3) := by decide +kernel
theorem dL_law__2498 : decode cL_law_ 2498 = .ok (.aload_n 1, 1) := by decide +kernel
theorem dL_law__2499 : decode cL_law_ 2499 = .ok (.aload_n 0, 1) := by decide +kernel
theorem dL_law__2500 : decode cL_law_ 2500 = .ok (.iload 4, 2) := by decide +kernel
theorem dL_law__2502 : decode cL_law_ 2502 = .ok (.iconst 1, 1) := by decide +kernel
theorem dL_law__2503 : decode cL_law_ 2503 = .ok (.iadd, 1) := by decide +kernel
theorem dL_law__2504 : decode cL_law_ 2504 = .ok (.iaload, 1) := by decide +kernel
theorem dL_law__2505 : decode cL_law_ 2505 = .ok (.aload_n 3, 1) := by decide +kernel
theorem dL_law__2506 : decode cL_law_ 2506 = .ok (.invokestatic 276, 3) := by decide +kernel
theorem dL_law__2509 : decode cL_law_ 2509 = .ok (.istore 5, 2) := by decide +kernel
theorem dL_law__2511 : decode cL_law_ 2511 = .ok (.aload_n 2, 1) := by decide +kernel
theorem dL_law__2512 : decode cL_law_ 2512 = .ok (.aload_n 0, 1) := by decide +kernel
theorem dL_law__2513 : decode cL_law_ 2513 = .ok (.iload 4, 2) := by decide +kernel
theorem dL_law__2515 : decode cL_law_ 2515 = .ok (.iconst 1, 1) := by decide +kernel
theorem dL_law__2516 : decode cL_law_ 2516 = .ok (.iadd, 1) := by decide +kernel
theorem dL_law__2517 : decode cL_law_ 2517 = .ok (.iaload, 1) := by decide +kernel
theorem dL_law__2518 : decode cL_law_ 2518 = .ok (.invokevirtual 278, 3) := by decide +kernel
theorem dL_law__2521 : decode cL_law_ 2521 = .ok (.istore 6, 2) := by decide +kernel
theorem dL_law__2523 : decode cL_law_ 2523 = .ok (.aload_n 2, 1) := by decide +kernel
theorem dL_law__2524 : decode cL_law_ 2524 = .ok (.invokevirtual 174, 3) := by decide +kernel
theorem dL_law__2527 : decode cL_law_ 2527 = .ok (.iload 5, 2) := by decide +kernel
theorem dL_law__2529 : decode cL_law_ 2529 = .ok (.if_icmp .eq 5, 3) := by decide +kernel
theorem dL_law__2532 : decode cL_law_ 2532 = .ok (.iconst 0, 1) := by decide +kernel
theorem dL_law__2533 : decode cL_law_ 2533 = .ok (.ireturn, 1) := by decide +kernel
theorem dL_law__2534 : decode cL_law_ 2534 = .ok (.iload 5, 2) := by decide +kernel
theorem dL_law__2536 : decode cL_law_ 2536 = .ok (.ifCond .ne 15, 3) := by decide +kernel
theorem dL_law__2539 : decode cL_law_ 2539 = .ok (.aload_n 3, 1) := by decide +kernel
theorem dL_law__2540 : decode cL_law_ 2540 = .ok (.iconst 0, 1) := by decide +kernel
theorem dL_law__2541 : decode cL_law_ 2541 = .ok (.laload, 1) := by decide +kernel
theorem dL_law__2542 : decode cL_law_ 2542 = .ok (.iload 6, 2) := by decide +kernel
theorem dL_law__2544 : decode cL_law_ 2544 = .ok (.i2l, 1) := by decide +kernel
theorem dL_law__2545 : decode cL_law_ 2545 = .ok (.lcmp, 1) := by decide +kernel
theorem dL_law__2546 : decode cL_law_ 2546 = .ok (.ifCond .eq 5, 3) := by decide +kernel
theorem dL_law__2549 : decode cL_law_ 2549 = .ok (.iconst 0, 1) := by decide +kernel
theorem dL_law__2550 : decode cL_law_ 2550 = .ok (.ireturn, 1) := by decide +kernel
theorem dL_law__2551 : decode cL_law_ 2551 = .ok (.goto 1036, 3) := by decide +kernel
theorem dL_law__2554 : decode cL_law_ 2554 = .ok (.aload_n 1, 1) := by decide +kernel
theorem dL_law__2555 : decode cL_law_ 2555 = .ok (.aload_n 0, 1) := by decide +kernel
theorem dL_law__2556 : decode cL_law_ 2556 = .ok (.iload 4, 2) := by decide +kernel
theorem dL_law__2558 : decode cL_law_ 2558 = .ok (.iconst 1, 1) := by decide +kernel
theorem dL_law__2559 : decode cL_law_ 2559 = .ok (.iadd, 1) := by decide +kernel
theorem dL_law__2560 : decode cL_law_ 2560 = .ok (.iaload, 1) := by decide +kernel
theorem dL_law__2561 : decode cL_law_ 2561 = .ok (.invokevirtual 279, 3) := by decide +kernel
theorem dL_law__2564 : decode cL_law_ 2564 = .ok (.aload_n 2, 1) := by decide +kernel
theorem dL_law__2565 : decode cL_law_ 2565 = .ok (.aload_n 0, 1) := by decide +kernel
theorem dL_law__2566 : decode cL_law_ 2566 = .ok (.iload 4, 2) := by decide +kernel
theorem dL_law__2568 : decode cL_law_ 2568 = .ok (.iconst 1, 1) := by decide +kernel
theorem dL_law__2569 : decode cL_law_ 2569 = .ok (.iadd, 1) := by decide +kernel
theorem dL_law__2570 : decode cL_law_ 2570 = .ok (.iaload, 1) := by decide +kernel
theorem dL_law__2571 : decode cL_law_ 2571 = .ok (.invokevirtual 282, 3) := by decide +kernel
theorem dL_law__2574 : decode cL_law_ 2574 = .ok (.if_icmp .eq 1013, 3) := by decide +kernel
theorem dL_law__2577 : decode cL_law_ 2577 = .ok (.iconst 0, 1) := by decide +kernel
theorem dL_law__2578 : decode cL_law_ 2578 = .ok (.ireturn, 1) := by decide +kernel
theorem dL_law__2579 : decode cL_law_ 2579 = .ok (.aload_n 1, 1) := by decide +kernel
theorem dL_law__2580 : decode cL_law_ 2580 = .ok (.aload_n 0, 1) := by decide +kernel
theorem dL_law__2581 : decode cL_law_ 2581 = .ok (.iload 4, 2) := by decide +kernel
theorem dL_law__2583 : decode cL_law_ 2583 = .ok (.iconst 1, 1) := by decide +kernel
theorem dL_law__2584 : decode cL_law_ 2584 = .ok (.iadd, 1) := by decide +kernel
theorem dL_law__2585 : decode cL_law_ 2585 = .ok (.iaload, 1) := by decide +kernel
theorem dL_law__2586 : decode cL_law_ 2586 = .ok (.aload_n 3, 1) := by decide +kernel
theorem dL_law__2587 : decode cL_law_ 2587 = .ok (.invokestatic 283, 3) := by decide +kernel
theorem dL_law__2590 : decode cL_law_ 2590 = .ok (.istore 5, 2) := by decide +kernel
theorem dL_law__2592 : decode cL_law_ 2592 = .ok (.aload_n 2, 1) := by decide +kernel
theorem dL_law__2593 : decode cL_law_ 2593 = .ok (.aload_n 0, 1) := by decide +kernel
theorem dL_law__2594 : decode cL_law_ 2594 = .ok (.iload 4, 2) := by decide +kernel
theorem dL_law__2596 : decode cL_law_ 2596 = .ok (.iconst 1, 1) := by decide +kernel
theorem dL_law__2597 : decode cL_law_ 2597 = .ok (.iadd, 1) := by decide +kernel
theorem dL_law__2598 : decode cL_law_ 2598 = .ok (.iaload, 1) := by decide +kernel
theorem dL_law__2599 : decode cL_law_ 2599 = .ok (.invokevirtual 285, 3) := by decide +kernel
theorem dL_law__2602 : decode cL_law_ 2602 = .ok (.istore 6, 2) := by decide +kernel
theorem dL_law__2604 : decode cL_law_ 2604 = .ok (.aload_n 2, 1) := by decide +kernel
theorem dL_law__2605 : decode cL_law_ 2605 = .ok (.invokevirtual 174, 3) := by decide +kernel
theorem dL_law__2608 : decode cL_law_ 2608 = .ok (.iload 5, 2) := by decide +kernel
theorem dL_law__2610 : decode cL_law_ 2610 = .ok (.if_icmp .eq 5, 3) := by decide +kernel
theorem dL_law__2613 : decode cL_law_ 2613 = .ok (.iconst 0, 1) := by decide +kernel
theorem dL_law__2614 : decode cL_law_ 2614 = .ok (.ireturn, 1) := by decide +kernel
theorem dL_law__2615 : decode cL_law_ 2615 = .ok (.iload 5, 2) := by decide +kernel
theorem dL_law__2617 : decode cL_law_ 2617 = .ok (.ifCond .ne 15, 3) := by decide +kernel
theorem dL_law__2620 : decode cL_law_ 2620 = .ok (.aload_n 3, 1) := by decide +kernel
theorem dL_law__2621 : decode cL_law_ 2621 = .ok (.iconst 0, 1) := by decide +kernel
theorem dL_law__2622 : decode cL_law_ 2622 = .ok (.laload, 1) := by decide +kernel
theorem dL_law__2623 : decode cL_law_ 2623 = .ok (.iload 6, 2) := by decide +kernel
theorem dL_law__2625 : decode cL_law_ 2625 = .ok (.i2l, 1) := by decide +kernel
theorem dL_law__2626 : decode cL_law_ 2626 = .ok (.lcmp, 1) := by decide +kernel
theorem dL_law__2627 : decode cL_law_ 2627 = .ok (.ifCond .eq 5, 3) := by decide +kernel
theorem dL_law__2630 : decode cL_law_ 2630 = .ok (.iconst 0, 1) := by decide +kernel
theorem dL_law__2631 : decode cL_law_ 2631 = .ok (.ireturn, 1) := by decide +kernel
theorem dL_law__2632 : decode cL_law_ 2632 = .ok (.goto 955, 3) := by decide +kernel
theorem dL_law__2635 : decode cL_law_ 2635 = .ok (.aload_n 1, 1) := by decide +kernel
theorem dL_law__2636 : decode cL_law_ 2636 = .ok (.aload_n 0, 1) := by decide +kernel
theorem dL_law__2637 : decode cL_law_ 2637 = .ok (.iload 4, 2) := by decide +kernel
theorem dL_law__2639 : decode cL_law_ 2639 = .ok (.iconst 1, 1) := by decide +kernel
theorem dL_law__2640 : decode cL_law_ 2640 = .ok (.iadd, 1) := by decide +kernel
theorem dL_law__2641 : decode cL_law_ 2641 = .ok (.iaload, 1) := by decide +kernel
theorem dL_law__2642 : decode cL_law_ 2642 = .ok (.aload_n 0, 1) := by decide +kernel
theorem dL_law__2643 : decode cL_law_ 2643 = .ok (.iload 4, 2) := by decide +kernel
theorem dL_law__2645 : decode cL_law_ 2645 = .ok (.iconst 2, 1) := by decide +kernel
theorem dL_law__2646 : decode cL_law_ 2646 = .ok (.iadd, 1) := by decide +kernel
theorem dL_law__2647 : decode cL_law_ 2647 = .ok (.iaload, 1) := by decide +kernel
theorem dL_law__2648 : decode cL_law_ 2648 = .ok (.aload_n 0, 1) := by decide +kernel
theorem dL_law__2649 : decode cL_law_ 2649 = .ok (.iload 4, 2) := by decide +kernel
theorem dL_law__2651 : decode cL_law_ 2651 = .ok (.iconst 3, 1) := by decide +kernel
theorem dL_law__2652 : decode cL_law_ 2652 = .ok (.iadd, 1) := by decide +kernel
theorem dL_law__2653 : decode cL_law_ 2653 = .ok (.iaload, 1) := by decide +kernel
theorem dL_law__2654 : decode cL_law_ 2654 = .ok (.ifCond .eq 7, 3) := by decide +kernel
theorem dL_law__2657 : decode cL_law_ 2657 = .ok (.iconst 1, 1) := by decide +kernel
theorem dL_law__2658 : decode cL_law_ 2658 = .ok (.goto 4, 3) := by decide +kernel
theorem dL_law__2661 : decode cL_law_ 2661 = .ok (.iconst 0, 1) := by decide +kernel
theorem dL_law__2662 : decode cL_law_ 2662 = .ok (.aload_n 3, 1) := by decide +kernel
theorem dL_law__2663 : decode cL_law_ 2663 = .ok (.invokestatic 286, 3) := by decide +kernel
theorem dL_law__2666 : decode cL_law_ 2666 = .ok (.istore 5, 2) := by decide +kernel
theorem dL_law__2668 : decode cL_law_ 2668 = .ok (.aload_n 2, 1) := by decide +kernel
theorem dL_law__2669 : decode cL_law_ 2669 = .ok (.aload_n 0, 1) := by decide +kernel
theorem dL_law__2670 : decode cL_law_ 2670 = .ok (.iload 4, 2) := by decide +kernel
theorem dL_law__2672 : decode cL_law_ 2672 = .ok (.iconst 1, 1) := by decide +kernel
theorem dL_law__2673 : decode cL_law_ 2673 = .ok (.iadd, 1) := by decide +kernel
theorem dL_law__2674 : decode cL_law_ 2674 = .ok (.iaload, 1) := by decide +kernel
theorem dL_law__2675 : decode cL_law_ 2675 = .ok (.aload_n 0, 1) := by decide +kernel
theorem dL_law__2676 : decode cL_law_ 2676 = .ok (.iload 4, 2) := by decide +kernel
theorem dL_law__2678 : decode cL_law_ 2678 = .ok (.iconst 2, 1) := by decide +kernel
theorem dL_law__2679 : decode cL_law_ 2679 = .ok (.iadd, 1) := by decide +kernel
theorem dL_law__2680 : decode cL_law_ 2680 = .ok (.iaload, 1) := by decide +kernel
theorem dL_law__2681 : decode cL_law_ 2681 = .ok (.aload_n 0, 1) := by decide +kernel
theorem dL_law__2682 : decode cL_law_ 2682 = .ok (.iload 4, 2) := by decide +kernel
theorem dL_law__2684 : decode cL_law_ 2684 = .ok (.iconst 3, 1) := by decide +kernel
theorem dL_law__2685 : decode cL_law_ 2685 = .ok (.iadd, 1) := by decide +kernel
theorem dL_law__2686 : decode cL_law_ 2686 = .ok (.iaload, 1) := by decide +kernel
theorem dL_law__2687 : decode cL_law_ 2687 = .ok (.ifCond .eq 7, 3) := by decide +kernel
theorem dL_law__2690 : decode cL_law_ 2690 = .ok (.iconst 1, 1) := by decide +kernel
theorem dL_law__2691 : decode cL_law_ 2691 = .ok (.goto 4, 3) := by decide +kernel
theorem dL_law__2694 : decode cL_law_ 2694 = .ok (.iconst 0, 1) := by decide +kernel
theorem dL_law__2695 : decode cL_law_ 2695 = .ok (.invokevirtual 288, 3) := by decide +kernel
theorem dL_law__2698 : decode cL_law_ 2698 = .ok (.istore 6, 2) := by decide +kernel
theorem dL_law__2700 : decode cL_law_ 2700 = .ok (.aload_n 2, 1) := by decide +kernel
theorem dL_law__2701 : decode cL_law_ 2701 = .ok (.invokevirtual 174, 3) := by decide +kernel
theorem dL_law__2704 : decode cL_law_ 2704 = .ok (.iload 5, 2) := by decide +kernel
theorem dL_law__2706 : decode cL_law_ 2706 = .ok (.if_icmp .eq 5, 3) := by decide +kernel
theorem dL_law__2709 : decode cL_law_ 2709 = .ok (.iconst 0, 1) := by decide +kernel
theorem dL_law__2710 : decode cL_law_ 2710 = .ok (.ireturn, 1) := by decide +kernel
theorem dL_law__2711 : decode cL_law_ 2711 = .ok (.iload 5, 2) := by decide +kernel
theorem dL_law__2713 : decode cL_law_ 2713 = .ok (.ifCond .ne 15, 3) := by decide +kernel
theorem dL_law__2716 : decode cL_law_ 2716 = .ok (.aload_n 3, 1) := by decide +kernel
theorem dL_law__2717 : decode cL_law_ 2717 = .ok (.iconst 0, 1) := by decide +kernel
theorem dL_law__2718 : decode cL_law_ 2718 = .ok (.laload, 1) := by decide +kernel
theorem dL_law__2719 : decode cL_law_ 2719 = .ok (.iload 6, 2) := by decide +kernel
theorem dL_law__2721 : decode cL_law_ 2721 = .ok (.i2l, 1) := by decide +kernel
theorem dL_law__2722 : decode cL_law_ 2722 = .ok (.lcmp, 1) := by decide +kernel
theorem dL_law__2723 : decode cL_law_ 2723 = .ok (.ifCond .eq 5, 3) := by decide +kernel
theorem dL_law__2726 : decode cL_law_ 2726 = .ok (.iconst 0, 1) := by decide +kernel
theorem dL_law__2727 : decode cL_law_ 2727 = .ok (.ireturn, 1) := by decide +kernel
theorem dL_law__2728 : decode cL_law_ 2728 = .ok (.goto 859, 3) := by decide +kernel
theorem dL_law__2731 : decode cL_law_ 2731 = .ok (.aload_n 1, 1) := by decide +kernel
theorem dL_law__2732 : decode cL_law_ 2732 = .ok (.aload_n 0, 1) := by decide +kernel
theorem dL_law__2733 : decode cL_law_ 2733 = .ok (.iload 4, 2) := by decide +kernel
theorem dL_law__2735 : decode cL_law_ 2735 = .ok (.iconst 1, 1) := by decide +kernel
theorem dL_law__2736 : decode cL_law_ 2736 = .ok (.iadd, 1) := by decide +kernel
theorem dL_law__2737 : decode cL_law_ 2737 = .ok (.iaload, 1) := by decide +kernel
theorem dL_law__2738 : decode cL_law_ 2738 = .ok (.aload_n 0, 1) := by decide +kernel
theorem dL_law__2739 : decode cL_law_ 2739 = .ok (.iload 4, 2) := by decide +kernel
theorem dL_law__2741 : decode cL_law_ 2741 = .ok (.iconst 2, 1) := by decide +kernel
theorem dL_law__2742 : decode cL_law_ 2742 = .ok (.iadd, 1) := by decide +kernel
theorem dL_law__2743 : decode cL_law_ 2743 = .ok (.iaload, 1) := by decide +kernel
theorem dL_law__2744 : decode cL_law_ 2744 = .ok (.aload_n 3, 1) := by decide +kernel
theorem dL_law__2745 : decode cL_law_ 2745 = .ok (.invokestatic 289, 3) := by decide +kernel
theorem dL_law__2748 : decode cL_law_ 2748 = .ok (.istore 5, 2) := by decide +kernel
theorem dL_law__2750 : decode cL_law_ 2750 = .ok (.aload_n 2, 1) := by decide +kernel
theorem dL_law__2751 : decode cL_law_ 2751 = .ok (.aload_n 0, 1) := by decide +kernel
theorem dL_law__2752 : decode cL_law_ 2752 = .ok (.iload 4, 2) := by decide +kernel
theorem dL_law__2754 : decode cL_law_ 2754 = .ok (.iconst 1, 1) := by decide +kernel
theorem dL_law__2755 : decode cL_law_ 2755 = .ok (.iadd, 1) := by decide +kernel
theorem dL_law__2756 : decode cL_law_ 2756 = .ok (.iaload, 1) := by decide +kernel
theorem dL_law__2757 : decode cL_law_ 2757 = .ok (.aload_n 0, 1) := by decide +kernel
theorem dL_law__2758 : decode cL_law_ 2758 = .ok (.iload 4, 2) := by decide +kernel
theorem dL_law__2760 : decode cL_law_ 2760 = .ok (.iconst 2, 1) := by decide +kernel
theorem dL_law__2761 : decode cL_law_ 2761 = .ok (.iadd, 1) := by decide +kernel
theorem dL_law__2762 : decode cL_law_ 2762 = .ok (.iaload, 1) := by decide +kernel
theorem dL_law__2763 : decode cL_law_ 2763 = .ok (.invokevirtual 291, 3) := by decide +kernel
theorem dL_law__2766 : decode cL_law_ 2766 = .ok (.istore 6, 2) := by decide +kernel
theorem dL_law__2768 : decode cL_law_ 2768 = .ok (.aload_n 2, 1) := by decide +kernel
theorem dL_law__2769 : decode cL_law_ 2769 = .ok (.invokevirtual 174, 3) := by decide +kernel
theorem dL_law__2772 : decode cL_law_ 2772 = .ok (.iload 5, 2) := by decide +kernel
theorem dL_law__2774 : decode cL_law_ 2774 = .ok (.if_icmp .eq 5, 3) := by decide +kernel
theorem dL_law__2777 : decode cL_law_ 2777 = .ok (.iconst 0, 1) := by decide +kernel
theorem dL_law__2778 : decode cL_law_ 2778 = .ok (.ireturn, 1) := by decide +kernel
theorem dL_law__2779 : decode cL_law_ 2779 = .ok (.iload 5, 2) := by decide +kernel
theorem dL_law__2781 : decode cL_law_ 2781 = .ok (.ifCond .ne 15, 3) := by decide +kernel
theorem dL_law__2784 : decode cL_law_ 2784 = .ok (.aload_n 3, 1) := by decide +kernel
theorem dL_law__2785 : decode cL_law_ 2785 = .ok (.iconst 0, 1) := by decide +kernel
theorem dL_law__2786 : decode cL_law_ 2786 = .ok (.laload, 1) := by decide +kernel
theorem dL_law__2787 : decode cL_law_ 2787 = .ok (.iload 6, 2) := by decide +kernel
theorem dL_law__2789 : decode cL_law_ 2789 = .ok (.i2l, 1) := by decide +kernel
theorem dL_law__2790 : decode cL_law_ 2790 = .ok (.lcmp, 1) := by decide +kernel
theorem dL_law__2791 : decode cL_law_ 2791 = .ok (.ifCond .eq 5, 3) := by decide +kernel
theorem dL_law__2794 : decode cL_law_ 2794 = .ok (.iconst 0, 1) := by decide +kernel
theorem dL_law__2795 : decode cL_law_ 2795 = .ok (.ireturn, 1) := by decide +kernel
theorem dL_law__2796 : decode cL_law_ 2796 = .ok (.goto 791, 3) := by decide +kernel
theorem dL_law__2799 : decode cL_law_ 2799 = .ok (.aload_n 1, 1) := by decide +kernel
theorem dL_law__2800 : decode cL_law_ 2800 = .ok (.aload_n 0, 1) := by decide +kernel
theorem dL_law__2801 : decode cL_law_ 2801 = .ok (.iload 4, 2) := by decide +kernel
theorem dL_law__2803 : decode cL_law_ 2803 = .ok (.iconst 1, 1) := by decide +kernel
theorem dL_law__2804 : decode cL_law_ 2804 = .ok (.iadd, 1) := by decide +kernel
theorem dL_law__2805 : decode cL_law_ 2805 = .ok (.iaload, 1) := by decide +kernel
theorem dL_law__2806 : decode cL_law_ 2806 = .ok (.aload_n 0, 1) := by decide +kernel
theorem dL_law__2807 : decode cL_law_ 2807 = .ok (.iload 4, 2) := by decide +kernel
theorem dL_law__2809 : decode cL_law_ 2809 = .ok (.iconst 2, 1) := by decide +kernel
theorem dL_law__2810 : decode cL_law_ 2810 = .ok (.iadd, 1) := by decide +kernel
theorem dL_law__2811 : decode cL_law_ 2811 = .ok (.iaload, 1) := by decide +kernel
theorem dL_law__2812 : decode cL_law_ 2812 = .ok (.ifCond .eq 7, 3) := by decide +kernel
theorem dL_law__2815 : decode cL_law_ 2815 = .ok (.iconst 1, 1) := by decide +kernel
theorem dL_law__2816 : decode cL_law_ 2816 = .ok (.goto 4, 3) := by decide +kernel
theorem dL_law__2819 : decode cL_law_ 2819 = .ok (.iconst 0, 1) := by decide +kernel
theorem dL_law__2820 : decode cL_law_ 2820 = .ok (.aload_n 3, 1) := by decide +kernel
theorem dL_law__2821 : decode cL_law_ 2821 = .ok (.invokestatic 292, 3) := by decide +kernel
theorem dL_law__2824 : decode cL_law_ 2824 = .ok (.istore 5, 2) := by decide +kernel
theorem dL_law__2826 : decode cL_law_ 2826 = .ok (.aload_n 2, 1) := by decide +kernel
theorem dL_law__2827 : decode cL_law_ 2827 = .ok (.aload_n 0, 1) := by decide +kernel
theorem dL_law__2828 : decode cL_law_ 2828 = .ok (.iload 4, 2) := by decide +kernel
theorem dL_law__2830 : decode cL_law_ 2830 = .ok (.iconst 1, 1) := by decide +kernel
theorem dL_law__2831 : decode cL_law_ 2831 = .ok (.iadd, 1) := by decide +kernel
theorem dL_law__2832 : decode cL_law_ 2832 = .ok (.iaload, 1) := by decide +kernel
theorem dL_law__2833 : decode cL_law_ 2833 = .ok (.aload_n 0, 1) := by decide +kernel
theorem dL_law__2834 : decode cL_law_ 2834 = .ok (.iload 4, 2) := by decide +kernel
theorem dL_law__2836 : decode cL_law_ 2836 = .ok (.iconst 2, 1) := by decide +kernel
theorem dL_law__2837 : decode cL_law_ 2837 = .ok (.iadd, 1) := by decide +kernel
theorem dL_law__2838 : decode cL_law_ 2838 = .ok (.iaload, 1) := by decide +kernel
theorem dL_law__2839 : decode cL_law_ 2839 = .ok (.ifCond .eq 7, 3) := by decide +kernel
theorem dL_law__2842 : decode cL_law_ 2842 = .ok (.iconst 1, 1) := by decide +kernel
theorem dL_law__2843 : decode cL_law_ 2843 = .ok (.goto 4, 3) := by decide +kernel
theorem dL_law__2846 : decode cL_law_ 2846 = .ok (.iconst 0, 1) := by decide +kernel
theorem dL_law__2847 : decode cL_law_ 2847 = .ok (.invokevirtual 294, 3) := by decide +kernel
theorem dL_law__2850 : decode cL_law_ 2850 = .ok (.istore 6, 2) := by decide +kernel
theorem dL_law__2852 : decode cL_law_ 2852 = .ok (.aload_n 2, 1) := by decide +kernel
theorem dL_law__2853 : decode cL_law_ 2853 = .ok (.invokevirtual 174, 3) := by decide +kernel
theorem dL_law__2856 : decode cL_law_ 2856 = .ok (.iload 5, 2) := by decide +kernel
theorem dL_law__2858 : decode cL_law_ 2858 = .ok (.if_icmp .eq 5, 3) := by decide +kernel
theorem dL_law__2861 : decode cL_law_ 2861 = .ok (.iconst 0, 1) := by decide +kernel
theorem dL_law__2862 : decode cL_law_ 2862 = .ok (.ireturn, 1) := by decide +kernel
theorem dL_law__2863 : decode cL_law_ 2863 = .ok (.iload 5, 2) := by decide +kernel
theorem dL_law__2865 : decode cL_law_ 2865 = .ok (.ifCond .ne 15, 3) := by decide +kernel
theorem dL_law__2868 : decode cL_law_ 2868 = .ok (.aload_n 3, 1) := by decide +kernel
theorem dL_law__2869 : decode cL_law_ 2869 = .ok (.iconst 0, 1) := by decide +kernel
theorem dL_law__2870 : decode cL_law_ 2870 = .ok (.laload, 1) := by decide +kernel
theorem dL_law__2871 : decode cL_law_ 2871 = .ok (.iload 6, 2) := by decide +kernel
theorem dL_law__2873 : decode cL_law_ 2873 = .ok (.i2l, 1) := by decide +kernel
theorem dL_law__2874 : decode cL_law_ 2874 = .ok (.lcmp, 1) := by decide +kernel
theorem dL_law__2875 : decode cL_law_ 2875 = .ok (.ifCond .eq 5, 3) := by decide +kernel
theorem dL_law__2878 : decode cL_law_ 2878 = .ok (.iconst 0, 1) := by decide +kernel
theorem dL_law__2879 : decode cL_law_ 2879 = .ok (.ireturn, 1) := by decide +kernel
theorem dL_law__2880 : decode cL_law_ 2880 = .ok (.goto 707, 3) := by decide +kernel
theorem dL_law__2883 : decode cL_law_ 2883 = .ok (.aload_n 1, 1) := by decide +kernel
theorem dL_law__2884 : decode cL_law_ 2884 = .ok (.aload_n 0, 1) := by decide +kernel
theorem dL_law__2885 : decode cL_law_ 2885 = .ok (.iload 4, 2) := by decide +kernel
theorem dL_law__2887 : decode cL_law_ 2887 = .ok (.iconst 1, 1) := by decide +kernel
theorem dL_law__2888 : decode cL_law_ 2888 = .ok (.iadd, 1) := by decide +kernel
theorem dL_law__2889 : decode cL_law_ 2889 = .ok (.iaload, 1) := by decide +kernel
theorem dL_law__2890 : decode cL_law_ 2890 = .ok (.aload_n 3, 1) := by decide +kernel
theorem dL_law__2891 : decode cL_law_ 2891 = .ok (.invokestatic 295, 3) := by decide +kernel
theorem dL_law__2894 : decode cL_law_ 2894 = .ok (.istore 5, 2) := by decide +kernel
theorem dL_law__2896 : decode cL_law_ 2896 = .ok (.aload_n 2, 1) := by decide +kernel
theorem dL_law__2897 : decode cL_law_ 2897 = .ok (.aload_n 0, 1) := by decide +kernel
theorem dL_law__2898 : decode cL_law_ 2898 = .ok (.iload 4, 2) := by decide +kernel
theorem dL_law__2900 : decode cL_law_ 2900 = .ok (.iconst 1, 1) := by decide +kernel
theorem dL_law__2901 : decode cL_law_ 2901 = .ok (.iadd, 1) := by decide +kernel
theorem dL_law__2902 : decode cL_law_ 2902 = .ok (.iaload, 1) := by decide +kernel
theorem dL_law__2903 : decode cL_law_ 2903 = .ok (.invokevirtual 297, 3) := by decide +kernel
theorem dL_law__2906 : decode cL_law_ 2906 = .ok (.istore 6, 2) := by decide +kernel
theorem dL_law__2908 : decode cL_law_ 2908 = .ok (.aload_n 2, 1) := by decide +kernel
theorem dL_law__2909 : decode cL_law_ 2909 = .ok (.invokevirtual 174, 3) := by decide +kernel
theorem dL_law__2912 : decode cL_law_ 2912 = .ok (.iload 5, 2) := by decide +kernel
theorem dL_law__2914 : decode cL_law_ 2914 = .ok (.if_icmp .eq 5, 3) := by decide +kernel
theorem dL_law__2917 : decode cL_law_ 2917 = .ok (.iconst 0, 1) := by decide +kernel
theorem dL_law__2918 : decode cL_law_ 2918 = .ok (.ireturn, 1) := by decide +kernel
theorem dL_law__2919 : decode cL_law_ 2919 = .ok (.iload 5, 2) := by decide +kernel
theorem dL_law__2921 : decode cL_law_ 2921 = .ok (.ifCond .ne 15, 3) := by decide +kernel
theorem dL_law__2924 : decode cL_law_ 2924 = .ok (.aload_n 3, 1) := by decide +kernel
theorem dL_law__2925 : decode cL_law_ 2925 = .ok (.iconst 0, 1) := by decide +kernel
theorem dL_law__2926 : decode cL_law_ 2926 = .ok (.laload, 1) := by decide +kernel
theorem dL_law__2927 : decode cL_law_ 2927 = .ok (.iload 6, 2) := by decide +kernel
theorem dL_law__2929 : decode cL_law_ 2929 = .ok (.i2l, 1) := by decide +kernel
theorem dL_law__2930 : decode cL_law_ 2930 = .ok (.lcmp, 1) := by decide +kernel
theorem dL_law__2931 : decode cL_law_ 2931 = .ok (.ifCond .eq 5, 3) := by decide +kernel
theorem dL_law__2934 : decode cL_law_ 2934 = .ok (.iconst 0, 1) := by decide +kernel
theorem dL_law__2935 : decode cL_law_ 2935 = .ok (.ireturn, 1) := by decide +kernel
theorem dL_law__2936 : decode cL_law_ 2936 = .ok (.goto 651, 3) := by decide +kernel
theorem dL_law__2939 : decode cL_law_ 2939 = .ok (.aload_n 1, 1) := by decide +kernel
theorem dL_law__2940 : decode cL_law_ 2940 = .ok (.aload_n 0, 1) := by decide +kernel
theorem dL_law__2941 : decode cL_law_ 2941 = .ok (.iload 4, 2) := by decide +kernel
theorem dL_law__2943 : decode cL_law_ 2943 = .ok (.iconst 1, 1) := by decide +kernel
theorem dL_law__2944 : decode cL_law_ 2944 = .ok (.iadd, 1) := by decide +kernel
theorem dL_law__2945 : decode cL_law_ 2945 = .ok (.iaload, 1) := by decide +kernel
theorem dL_law__2946 : decode cL_law_ 2946 = .ok (.aload_n 3, 1) := by decide +kernel
theorem dL_law__2947 : decode cL_law_ 2947 = .ok (.invokestatic 298, 3) := by decide +kernel
theorem dL_law__2950 : decode cL_law_ 2950 = .ok (.istore 5, 2) := by decide +kernel
theorem dL_law__2952 : decode cL_law_ 2952 = .ok (.aload_n 2, 1) := by decide +kernel
theorem dL_law__2953 : decode cL_law_ 2953 = .ok (.aload_n 0, 1) := by decide +kernel
theorem dL_law__2954 : decode cL_law_ 2954 = .ok (.iload 4, 2) := by decide +kernel
theorem dL_law__2956 : decode cL_law_ 2956 = .ok (.iconst 1, 1) := by decide +kernel
theorem dL_law__2957 : decode cL_law_ 2957 = .ok (.iadd, 1) := by decide +kernel
theorem dL_law__2958 : decode cL_law_ 2958 = .ok (.iaload, 1) := by decide +kernel
theorem dL_law__2959 : decode cL_law_ 2959 = .ok (.invokevirtual 300, 3) := by decide +kernel
theorem dL_law__2962 : decode cL_law_ 2962 = .ok (.istore 6, 2) := by decide +kernel
theorem dL_law__2964 : decode cL_law_ 2964 = .ok (.aload_n 2, 1) := by decide +kernel
theorem dL_law__2965 : decode cL_law_ 2965 = .ok (.invokevirtual 174, 3) := by decide +kernel
theorem dL_law__2968 : decode cL_law_ 2968 = .ok (.iload 5, 2) := by decide +kernel
theorem dL_law__2970 : decode cL_law_ 2970 = .ok (.if_icmp .eq 5, 3) := by decide +kernel
theorem dL_law__2973 : decode cL_law_ 2973 = .ok (.iconst 0, 1) := by decide +kernel
theorem dL_law__2974 : decode cL_law_ 2974 = .ok (.ireturn, 1) := by decide +kernel
theorem dL_law__2975 : decode cL_law_ 2975 = .ok (.iload 5, 2) := by decide +kernel
theorem dL_law__2977 : decode cL_law_ 2977 = .ok (.ifCond .ne 15, 3) := by decide +kernel
theorem dL_law__2980 : decode cL_law_ 2980 = .ok (.aload_n 3, 1) := by decide +kernel
theorem dL_law__2981 : decode cL_law_ 2981 = .ok (.iconst 0, 1) := by decide +kernel
theorem dL_law__2982 : decode cL_law_ 2982 = .ok (.laload, 1) := by decide +kernel
theorem dL_law__2983 : decode cL_law_ 2983 = .ok (.iload 6, 2) := by decide +kernel
theorem dL_law__2985 : decode cL_law_ 2985 = .ok (.i2l, 1) := by decide +kernel
theorem dL_law__2986 : decode cL_law_ 2986 = .ok (.lcmp, 1) := by decide +kernel
theorem dL_law__2987 : decode cL_law_ 2987 = .ok (.ifCond .eq 5, 3) := by decide +kernel
theorem dL_law__2990 : decode cL_law_ 2990 = .ok (.iconst 0, 1) := by decide +kernel
theorem dL_law__2991 : decode cL_law_ 2991 = .ok (.ireturn, 1) := by decide +kernel
theorem dL_law__2992 : decode cL_law_ 2992 = .ok (.goto 595, 3) := by decide +kernel
theorem dL_law__2995 : decode cL_law_ 2995 = .ok (.aload_n 1, 1) := by decide +kernel
theorem dL_law__2996 : decode cL_law_ 2996 = .ok (.aload_n 0, 1) := by decide +kernel
theorem dL_law__2997 : decode cL_law_ 2997 = .ok (.iload 4, 2) := by decide +kernel
theorem dL_law__2999 : decode cL_law_ 2999 = .ok (.iconst 1, 1) := by decide +kernel
theorem dL_law__3000 : decode cL_law_ 3000 = .ok (.iadd, 1) := by decide +kernel
theorem dL_law__3001 : decode cL_law_ 3001 = .ok (.iaload, 1) := by decide +kernel
theorem dL_law__3002 : decode cL_law_ 3002 = .ok (.aload_n 0, 1) := by decide +kernel
theorem dL_law__3003 : decode cL_law_ 3003 = .ok (.iload 4, 2) := by decide +kernel
theorem dL_law__3005 : decode cL_law_ 3005 = .ok (.iconst 2, 1) := by decide +kernel
theorem dL_law__3006 : decode cL_law_ 3006 = .ok (.iadd, 1) := by decide +kernel
theorem dL_law__3007 : decode cL_law_ 3007 = .ok (.iaload, 1) := by decide +kernel
theorem dL_law__3008 : decode cL_law_ 3008 = .ok (.aload_n 3, 1) := by decide +kernel
theorem dL_law__3009 : decode cL_law_ 3009 = .ok (.invokestatic 301, 3) := by decide +kernel
theorem dL_law__3012 : decode cL_law_ 3012 = .ok (.istore 5, 2) := by decide +kernel
theorem dL_law__3014 : decode cL_law_ 3014 = .ok (.aload_n 2, 1) := by decide +kernel
theorem dL_law__3015 : decode cL_law_ 3015 = .ok (.aload_n 0, 1) := by decide +kernel
theorem dL_law__3016 : decode cL_law_ 3016 = .ok (.iload 4, 2) := by decide +kernel
theorem dL_law__3018 : decode cL_law_ 3018 = .ok (.iconst 1, 1) := by decide +kernel
theorem dL_law__3019 : decode cL_law_ 3019 = .ok (.iadd, 1) := by decide +kernel
theorem dL_law__3020 : decode cL_law_ 3020 = .ok (.iaload, 1) := by decide +kernel
theorem dL_law__3021 : decode cL_law_ 3021 = .ok (.aload_n 0, 1) := by decide +kernel
theorem dL_law__3022 : decode cL_law_ 3022 = .ok (.iload 4, 2) := by decide +kernel
theorem dL_law__3024 : decode cL_law_ 3024 = .ok (.iconst 2, 1) := by decide +kernel
theorem dL_law__3025 : decode cL_law_ 3025 = .ok (.iadd, 1) := by decide +kernel
theorem dL_law__3026 : decode cL_law_ 3026 = .ok (.iaload, 1) := by decide +kernel
theorem dL_law__3027 : decode cL_law_ 3027 = .ok (.invokevirtual 303, 3) := by decide +kernel
theorem dL_law__3030 : decode cL_law_ 3030 = .ok (.istore 6, 2) := by decide +kernel
theorem dL_law__3032 : decode cL_law_ 3032 = .ok (.aload_n 2, 1) := by decide +kernel
theorem dL_law__3033 : decode cL_law_ 3033 = .ok (.invokevirtual 174, 3) := by decide +kernel
theorem dL_law__3036 : decode cL_law_ 3036 = .ok (.iload 5, 2) := by decide +kernel
theorem dL_law__3038 : decode cL_law_ 3038 = .ok (.if_icmp .eq 5, 3) := by decide +kernel
theorem dL_law__3041 : decode cL_law_ 3041 = .ok (.iconst 0, 1) := by decide +kernel
theorem dL_law__3042 : decode cL_law_ 3042 = .ok (.ireturn, 1) := by decide +kernel
theorem dL_law__3043 : decode cL_law_ 3043 = .ok (.iload 5, 2) := by decide +kernel
theorem dL_law__3045 : decode cL_law_ 3045 = .ok (.ifCond .ne 15, 3) := by decide +kernel
theorem dL_law__3048 : decode cL_law_ 3048 = .ok (.aload_n 3, 1) := by decide +kernel
theorem dL_law__3049 : decode cL_law_ 3049 = .ok (.iconst 0, 1) := by decide +kernel
theorem dL_law__3050 : decode cL_law_ 3050 = .ok (.laload, 1) := by decide +kernel
theorem dL_law__3051 : decode cL_law_ 3051 = .ok (.iload 6, 2) := by decide +kernel
theorem dL_law__3053 : decode cL_law_ 3053 = .ok (.i2l, 1) := by decide +kernel
theorem dL_law__3054 : decode cL_law_ 3054 = .ok (.lcmp, 1) := by decide +kernel
theorem dL_law__3055 : decode cL_law_ 3055 = .ok (.ifCond .eq 5, 3) := by decide +kernel
theorem dL_law__3058 : decode cL_law_ 3058 = .ok (.iconst 0, 1) := by decide +kernel
theorem dL_law__3059 : decode cL_law_ 3059 = .ok (.ireturn, 1) := by decide +kernel
theorem dL_law__3060 : decode cL_law_ 3060 = .ok (.goto 527, 3) := by decide +kernel
theorem dL_law__3063 : decode cL_law_ 3063 = .ok (.aload_n 1, 1) := by decide +kernel
theorem dL_law__3064 : decode cL_law_ 3064 = .ok (.aload_n 0, 1) := by decide +kernel
theorem dL_law__3065 : decode cL_law_ 3065 = .ok (.iload 4, 2) := by decide +kernel
theorem dL_law__3067 : decode cL_law_ 3067 = .ok (.iconst 1, 1) := by decide +kernel
theorem dL_law__3068 : decode cL_law_ 3068 = .ok (.iadd, 1) := by decide +kernel
theorem dL_law__3069 : decode cL_law_ 3069 = .ok (.iaload, 1) := by decide +kernel
theorem dL_law__3070 : decode cL_law_ 3070 = .ok (.aload_n 0, 1) := by decide +kernel
theorem dL_law__3071 : decode cL_law_ 3071 = .ok (.iload 4, 2) := by decide +kernel
theorem dL_law__3073 : decode cL_law_ 3073 = .ok (.iconst 2, 1) := by decide +kernel
theorem dL_law__3074 : decode cL_law_ 3074 = .ok (.iadd, 1) := by decide +kernel
theorem dL_law__3075 : decode cL_law_ 3075 = .ok (.iaload, 1) := by decide +kernel
theorem dL_law__3076 : decode cL_law_ 3076 = .ok (.ifCond .eq 7, 3) := by decide +kernel
theorem dL_law__3079 : decode cL_law_ 3079 = .ok (.iconst 1, 1) := by decide +kernel
theorem dL_law__3080 : decode cL_law_ 3080 = .ok (.goto 4, 3) := by decide +kernel
theorem dL_law__3083 : decode cL_law_ 3083 = .ok (.iconst 0, 1) := by decide +kernel
theorem dL_law__3084 : decode cL_law_ 3084 = .ok (.aload_n 3, 1) := by decide +kernel
theorem dL_law__3085 : decode cL_law_ 3085 = .ok (.invokestatic 304, 3) := by decide +kernel
theorem dL_law__3088 : decode cL_law_ 3088 = .ok (.istore 5, 2) := by decide +kernel
theorem dL_law__3090 : decode cL_law_ 3090 = .ok (.aload_n 2, 1) := by decide +kernel
theorem dL_law__3091 : decode cL_law_ 3091 = .ok (.aload_n 0, 1) := by decide +kernel
theorem dL_law__3092 : decode cL_law_ 3092 = .ok (.iload 4, 2) := by decide +kernel
theorem dL_law__3094 : decode cL_law_ 3094 = .ok (.iconst 1, 1) := by decide +kernel
theorem dL_law__3095 : decode cL_law_ 3095 = .ok (.iadd, 1) := by decide +kernel
theorem dL_law__3096 : decode cL_law_ 3096 = .ok (.iaload, 1) := by decide +kernel
theorem dL_law__3097 : decode cL_law_ 3097 = .ok (.aload_n 0, 1) := by decide +kernel
theorem dL_law__3098 : decode cL_law_ 3098 = .ok (.iload 4, 2) := by decide +kernel
theorem dL_law__3100 : decode cL_law_ 3100 = .ok (.iconst 2, 1) := by decide +kernel
theorem dL_law__3101 : decode cL_law_ 3101 = .ok (.iadd, 1) := by decide +kernel
theorem dL_law__3102 : decode cL_law_ 3102 = .ok (.iaload, 1) := by decide +kernel
theorem dL_law__3103 : decode cL_law_ 3103 = .ok (.ifCond .eq 7, 3) := by decide +kernel
theorem dL_law__3106 : decode cL_law_ 3106 = .ok (.iconst 1, 1) := by decide +kernel
theorem dL_law__3107 : decode cL_law_ 3107 = .ok (.goto 4, 3) := by decide +kernel
theorem dL_law__3110 : decode cL_law_ 3110 = .ok (.iconst 0, 1) := by decide +kernel
theorem dL_law__3111 : decode cL_law_ 3111 = .ok (.invokevirtual 306, 3) := by decide +kernel
