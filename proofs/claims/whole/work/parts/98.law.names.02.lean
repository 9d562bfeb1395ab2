theorem dL_law__1612 : decode cL_law_ 1612 = .ok (.iaload, 1) := by decide +kernel
theorem dL_law__1613 : decode cL_law_ 1613 = .ok (.aload_n 3, 1) := by decide +kernel
theorem dL_law__1614 : decode cL_law_ 1614 = .ok (.invokestatic 224, 3) := by decide +kernel
theorem dL_law__1617 : decode cL_law_ 1617 = .ok (.istore 5, 2) := by decide +kernel
theorem dL_law__1619 : decode cL_law_ 1619 = .ok (.aload_n 2, 1) := by decide +kernel
theorem dL_law__1620 : decode cL_law_ 1620 = .ok (.aload_n 0, 1) := by decide +kernel
theorem dL_law__1621 : decode cL_law_ 1621 = .ok (.iload 4, 2) := by decide +kernel
theorem dL_law__1623 : decode cL_law_ 1623 = .ok (.iconst 1, 1) := by decide +kernel
theorem dL_law__1624 : decode cL_law_ 1624 = .ok (.iadd, 1) := by decide +kernel
theorem dL_law__1625 : decode cL_law_ 1625 = .ok (.iaload, 1) := by decide +kernel
theorem dL_law__1626 : decode cL_law_ 1626 = .ok (.invokevirtual 226, 3) := by decide +kernel
theorem dL_law__1629 : decode cL_law_ 1629 = .ok (.istore 6, 2) := by decide +kernel
theorem dL_law__1631 : decode cL_law_ 1631 = .ok (.aload_n 2, 1) := by decide +kernel
theorem dL_law__1632 : decode cL_law_ 1632 = .ok (.invokevirtual 158, 3) := by decide +kernel
theorem dL_law__1635 : decode cL_law_ 1635 = .ok (.iload 5, 2) := by decide +kernel
theorem dL_law__1637 : decode cL_law_ 1637 = .ok (.if_icmp .eq 5, 3) := by decide +kernel
theorem dL_law__1640 : decode cL_law_ 1640 = .ok (.iconst 0, 1) := by decide +kernel
theorem dL_law__1641 : decode cL_law_ 1641 = .ok (.ireturn, 1) := by decide +kernel
theorem dL_law__1642 : decode cL_law_ 1642 = .ok (.iload 5, 2) := by decide +kernel
theorem dL_law__1644 : decode cL_law_ 1644 = .ok (.ifCond .ne 15, 3) := by decide +kernel
theorem dL_law__1647 : decode cL_law_ 1647 = .ok (.aload_n 3, 1) := by decide +kernel
theorem dL_law__1648 : decode cL_law_ 1648 = .ok (.iconst 0, 1) := by decide +kernel
theorem dL_law__1649 : decode cL_law_ 1649 = .ok (.laload, 1) := by decide +kernel
theorem dL_law__1650 : decode cL_law_ 1650 = .ok (.iload 6, 2) := by decide +kernel
theorem dL_law__1652 : decode cL_law_ 1652 = .ok (.i2l, 1) := by decide +kernel
theorem dL_law__1653 : decode cL_law_ 1653 = .ok (.lcmp, 1) := by decide +kernel
theorem dL_law__1654 : decode cL_law_ 1654 = .ok (.ifCond .eq 5, 3) := by decide +kernel
theorem dL_law__1657 : decode cL_law_ 1657 = .ok (.iconst 0, 1) := by decide +kernel
theorem dL_law__1658 : decode cL_law_ 1658 = .ok (.ireturn, 1) := by decide +kernel
theorem dL_law__1659 : decode cL_law_ 1659 = .ok (.goto 1414, 3) := by decide +kernel
theorem dL_law__1662 : decode cL_law_ 1662 = .ok (.aload_n 1, 1) := by decide +kernel
theorem dL_law__1663 : decode cL_law_ 1663 = .ok (.aload_n 0, 1) := by decide +kernel
theorem dL_law__1664 : decode cL_law_ 1664 = .ok (.iload 4, 2) := by decide +kernel
theorem dL_law__1666 : decode cL_law_ 1666 = .ok (.iconst 1, 1) := by decide +kernel
theorem dL_law__1667 : decode cL_law_ 1667 = .ok (.iadd, 1) := by decide +kernel
theorem dL_law__1668 : decode cL_law_ 1668 = .ok (.iaload, 1) := by decide +kernel
theorem dL_law__1669 : decode cL_law_ 1669 = .ok (.aload_n 0, 1) := by decide +kernel
theorem dL_law__1670 : decode cL_law_ 1670 = .ok (.iload 4, 2) := by decide +kernel
theorem dL_law__1672 : decode cL_law_ 1672 = .ok (.iconst 2, 1) := by decide +kernel
theorem dL_law__1673 : decode cL_law_ 1673 = .ok (.iadd, 1) := by decide +kernel
theorem dL_law__1674 : decode cL_law_ 1674 = .ok (.iaload, 1) := by decide +kernel
theorem dL_law__1675 : decode cL_law_ 1675 = .ok (.aload_n 0, 1) := by decide +kernel
theorem dL_law__1676 : decode cL_law_ 1676 = .ok (.iload 4, 2) := by decide +kernel
theorem dL_law__1678 : decode cL_law_ 1678 = .ok (.iconst 3, 1) := by decide +kernel
theorem dL_law__1679 : decode cL_law_ 1679 = .ok (.iadd, 1) := by decide +kernel
theorem dL_law__1680 : decode cL_law_ 1680 = .ok (.iaload, 1) := by decide +kernel
theorem dL_law__1681 : decode cL_law_ 1681 = .ok (.aload_n 3, 1) := by decide +kernel
theorem dL_law__1682 : decode cL_law_ 1682 = .ok (.invokestatic 227, 3) := by decide +kernel
theorem dL_law__1685 : decode cL_law_ 1685 = .ok (.istore 5, 2) := by decide +kernel
theorem dL_law__1687 : decode cL_law_ 1687 = .ok (.aload_n 2, 1) := by decide +kernel
theorem dL_law__1688 : decode cL_law_ 1688 = .ok (.aload_n 0, 1) := by decide +kernel
theorem dL_law__1689 : decode cL_law_ 1689 = .ok (.iload 4, 2) := by decide +kernel
theorem dL_law__1691 : decode cL_law_ 1691 = .ok (.iconst 1, 1) := by decide +kernel
theorem dL_law__1692 : decode cL_law_ 1692 = .ok (.iadd, 1) := by decide +kernel
theorem dL_law__1693 : decode cL_law_ 1693 = .ok (.iaload, 1) := by decide +kernel
theorem dL_law__1694 : decode cL_law_ 1694 = .ok (.aload_n 0, 1) := by decide +kernel
theorem dL_law__1695 : decode cL_law_ 1695 = .ok (.iload 4, 2) := by decide +kernel
theorem dL_law__1697 : decode cL_law_ 1697 = .ok (.iconst 2, 1) := by decide +kernel
theorem dL_law__1698 : decode cL_law_ 1698 = .ok (.iadd, 1) := by decide +kernel
theorem dL_law__1699 : decode cL_law_ 1699 = .ok (.iaload, 1) := by decide +kernel
theorem dL_law__1700 : decode cL_law_ 1700 = .ok (.aload_n 0, 1) := by decide +kernel
theorem dL_law__1701 : decode cL_law_ 1701 = .ok (.iload 4, 2) := by decide +kernel
theorem dL_law__1703 : decode cL_law_ 1703 = .ok (.iconst 3, 1) := by decide +kernel
theorem dL_law__1704 : decode cL_law_ 1704 = .ok (.iadd, 1) := by decide +kernel
theorem dL_law__1705 : decode cL_law_ 1705 = .ok (.iaload, 1) := by decide +kernel
theorem dL_law__1706 : decode cL_law_ 1706 = .ok (.invokevirtual 230, 3) := by decide +kernel
theorem dL_law__1709 : decode cL_law_ 1709 = .ok (.istore 6, 2) := by decide +kernel
theorem dL_law__1711 : decode cL_law_ 1711 = .ok (.aload_n 2, 1) := by decide +kernel
theorem dL_law__1712 : decode cL_law_ 1712 = .ok (.invokevirtual 158, 3) := by decide +kernel
theorem dL_law__1715 : decode cL_law_ 1715 = .ok (.iload 5, 2) := by decide +kernel
theorem dL_law__1717 : decode cL_law_ 1717 = .ok (.if_icmp .eq 5, 3) := by decide +kernel
theorem dL_law__1720 : decode cL_law_ 1720 = .ok (.iconst 0, 1) := by decide +kernel
theorem dL_law__1721 : decode cL_law_ 1721 = .ok (.ireturn, 1) := by decide +kernel
theorem dL_law__1722 : decode cL_law_ 1722 = .ok (.iload 5, 2) := by decide +kernel
theorem dL_law__1724 : decode cL_law_ 1724 = .ok (.ifCond .ne 15, 3) := by decide +kernel
theorem dL_law__1727 : decode cL_law_ 1727 = .ok (.aload_n 3, 1) := by decide +kernel
theorem dL_law__1728 : decode cL_law_ 1728 = .ok (.iconst 0, 1) := by decide +kernel
theorem dL_law__1729 : decode cL_law_ 1729 = .ok (.laload, 1) := by decide +kernel
theorem dL_law__1730 : decode cL_law_ 1730 = .ok (.iload 6, 2) := by decide +kernel
theorem dL_law__1732 : decode cL_law_ 1732 = .ok (.i2l, 1) := by decide +kernel
theorem dL_law__1733 : decode cL_law_ 1733 = .ok (.lcmp, 1) := by decide +kernel
theorem dL_law__1734 : decode cL_law_ 1734 = .ok (.ifCond .eq 5, 3) := by decide +kernel
theorem dL_law__1737 : decode cL_law_ 1737 = .ok (.iconst 0, 1) := by decide +kernel
theorem dL_law__1738 : decode cL_law_ 1738 = .ok (.ireturn, 1) := by decide +kernel
theorem dL_law__1739 : decode cL_law_ 1739 = .ok (.goto 1334, 3) := by decide +kernel
theorem dL_law__1742 : decode cL_law_ 1742 = .ok (.aload_n 1, 1) := by decide +kernel
theorem dL_law__1743 : decode cL_law_ 1743 = .ok (.aload_n 0, 1) := by decide +kernel
theorem dL_law__1744 : decode cL_law_ 1744 = .ok (.iload 4, 2) := by decide +kernel
theorem dL_law__1746 : decode cL_law_ 1746 = .ok (.iconst 1, 1) := by decide +kernel
theorem dL_law__1747 : decode cL_law_ 1747 = .ok (.iadd, 1) := by decide +kernel
theorem dL_law__1748 : decode cL_law_ 1748 = .ok (.iaload, 1) := by decide +kernel
theorem dL_law__1749 : decode cL_law_ 1749 = .ok (.aload_n 3, 1) := by decide +kernel
theorem dL_law__1750 : decode cL_law_ 1750 = .ok (.invokestatic 231, 3) := by decide +kernel
theorem dL_law__1753 : decode cL_law_ 1753 = .ok (.istore 5, 2) := by decide +kernel
theorem dL_law__1755 : decode cL_law_ 1755 = .ok (.aload_n 2, 1) := by decide +kernel
theorem dL_law__1756 : decode cL_law_ 1756 = .ok (.aload_n 0, 1) := by decide +kernel
theorem dL_law__1757 : decode cL_law_ 1757 = .ok (.iload 4, 2) := by decide +kernel
theorem dL_law__1759 : decode cL_law_ 1759 = .ok (.iconst 1, 1) := by decide +kernel
theorem dL_law__1760 : decode cL_law_ 1760 = .ok (.iadd, 1) := by decide +kernel
theorem dL_law__1761 : decode cL_law_ 1761 = .ok (.iaload, 1) := by decide +kernel
theorem dL_law__1762 : decode cL_law_ 1762 = .ok (.invokevirtual 233, 3) := by decide +kernel
theorem dL_law__1765 : decode cL_law_ 1765 = .ok (.istore 6, 2) := by decide +kernel
theorem dL_law__1767 : decode cL_law_ 1767 = .ok (.aload_n 2, 1) := by decide +kernel
theorem dL_law__1768 : decode cL_law_ 1768 = .ok (.invokevirtual 158, 3) := by decide +kernel
theorem dL_law__1771 : decode cL_law_ 1771 = .ok (.iload 5, 2) := by decide +kernel
theorem dL_law__1773 : decode cL_law_ 1773 = .ok (.if_icmp .eq 5, 3) := by decide +kernel
theorem dL_law__1776 : decode cL_law_ 1776 = .ok (.iconst 0, 1) := by decide +kernel
theorem dL_law__1777 : decode cL_law_ 1777 = .ok (.ireturn, 1) := by decide +kernel
theorem dL_law__1778 : decode cL_law_ 1778 = .ok (.iload 5, 2) := by decide +kernel
theorem dL_law__1780 : decode cL_law_ 1780 = .ok (.ifCond .ne 15, 3) := by decide +kernel
theorem dL_law__1783 : decode cL_law_ 1783 = .ok (.aload_n 3, 1) := by decide +kernel
theorem dL_law__1784 : decode cL_law_ 1784 = .ok (.iconst 0, 1) := by decide +kernel
theorem dL_law__1785 : decode cL_law_ 1785 = .ok (.laload, 1) := by decide +kernel
theorem dL_law__1786 : decode cL_law_ 1786 = .ok (.iload 6, 2) := by decide +kernel
theorem dL_law__1788 : decode cL_law_ 1788 = .ok (.i2l, 1) := by decide +kernel
theorem dL_law__1789 : decode cL_law_ 1789 = .ok (.lcmp, 1) := by decide +kernel
theorem dL_law__1790 : decode cL_law_ 1790 = .ok (.ifCond .eq 5, 3) := by decide +kernel
theorem dL_law__1793 : decode cL_law_ 1793 = .ok (.iconst 0, 1) := by decide +kernel
theorem dL_law__1794 : decode cL_law_ 1794 = .ok (.ireturn, 1) := by decide +kernel
theorem dL_law__1795 : decode cL_law_ 1795 = .ok (.goto 1278, 3) := by decide +kernel
theorem dL_law__1798 : decode cL_law_ 1798 = .ok (.aload_n 1, 1) := by decide +kernel
theorem dL_law__1799 : decode cL_law_ 1799 = .ok (.aload_n 3, 1) := by decide +kernel
theorem dL_law__1800 : decode cL_law_ 1800 = .ok (.invokestatic 234, 3) := by decide +kernel
theorem dL_law__1803 : decode cL_law_ 1803 = .ok (.istore 5, 2) := by decide +kernel
theorem dL_law__1805 : decode cL_law_ 1805 = .ok (.aload_n 2, 1) := by decide +kernel
theorem dL_law__1806 : decode cL_law_ 1806 = .ok (.invokevirtual 236, 3) := by decide +kernel
theorem dL_law__1809 : decode cL_law_ 1809 = .ok (.istore 6, 2) := by decide +kernel
theorem dL_law__1811 : decode cL_law_ 1811 = .ok (.aload_n 2, 1) := by decide +kernel
theorem dL_law__1812 : decode cL_law_ 1812 = .ok (.invokevirtual 158, 3) := by decide +kernel
theorem dL_law__1815 : decode cL_law_ 1815 = .ok (.iload 5, 2) := by decide +kernel
theorem dL_law__1817 : decode cL_law_ 1817 = .ok (.if_icmp .eq 5, 3) := by decide +kernel
theorem dL_law__1820 : decode cL_law_ 1820 = .ok (.iconst 0, 1) := by decide +kernel
theorem dL_law__1821 : decode cL_law_ 1821 = .ok (.ireturn, 1) := by decide +kernel
theorem dL_law__1822 : decode cL_law_ 1822 = .ok (.iload 5, 2) := by decide +kernel
theorem dL_law__1824 : decode cL_law_ 1824 = .ok (.ifCond .ne 15, 3) := by decide +kernel
theorem dL_law__1827 : decode cL_law_ 1827 = .ok (.aload_n 3, 1) := by decide +kernel
theorem dL_law__1828 : decode cL_law_ 1828 = .ok (.iconst 0, 1) := by decide +kernel
theorem dL_law__1829 : decode cL_law_ 1829 = .ok (.laload, 1) := by decide +kernel
theorem dL_law__1830 : decode cL_law_ 1830 = .ok (.iload 6, 2) := by decide +kernel
theorem dL_law__1832 : decode cL_law_ 1832 = .ok (.i2l, 1) := by decide +kernel
theorem dL_law__1833 : decode cL_law_ 1833 = .ok (.lcmp, 1) := by decide +kernel
theorem dL_law__1834 : decode cL_law_ 1834 = .ok (.ifCond .eq 5, 3) := by decide +kernel
theorem dL_law__1837 : decode cL_law_ 1837 = .ok (.iconst 0, 1) := by decide +kernel
theorem dL_law__1838 : decode cL_law_ 1838 = .ok (.ireturn, 1) := by decide +kernel
theorem dL_law__1839 : decode cL_law_ 1839 = .ok (.goto 1234, 3) := by decide +kernel
theorem dL_law__1842 : decode cL_law_ 1842 = .ok (.aload_n 1, 1) := by decide +kernel
theorem dL_law__1843 : decode cL_law_ 1843 = .ok (.aload_n 0, 1) := by decide +kernel
theorem dL_law__1844 : decode cL_law_ 1844 = .ok (.iload 4, 2) := by decide +kernel
theorem dL_law__1846 : decode cL_law_ 1846 = .ok (.iconst 1, 1) := by decide +kernel
theorem dL_law__1847 : decode cL_law_ 1847 = .ok (.iadd, 1) := by decide +kernel
theorem dL_law__1848 : decode cL_law_ 1848 = .ok (.iaload, 1) := by decide +kernel
theorem dL_law__1849 : decode cL_law_ 1849 = .ok (.ifCond .eq 7, 3) := by decide +kernel
theorem dL_law__1852 : decode cL_law_ 1852 = .ok (.iconst 1, 1) := by decide +kernel
theorem dL_law__1853 : decode cL_law_ 1853 = .ok (.goto 4, 3) := by decide +kernel
theorem dL_law__1856 : decode cL_law_ 1856 = .ok (.iconst 0, 1) := by decide +kernel
theorem dL_law__1857 : decode cL_law_ 1857 = .ok (.aload_n 3, 1) := by decide +kernel
theorem dL_law__1858 : decode cL_law_ 1858 = .ok (.invokestatic 237, 3) := by decide +kernel
theorem dL_law__1861 : decode cL_law_ 1861 = .ok (.istore 5, 2) := by decide +kernel
theorem dL_law__1863 : decode cL_law_ 1863 = .ok (.aload_n 2, 1) := by decide +kernel
theorem dL_law__1864 : decode cL_law_ 1864 = .ok (.aload_n 0, 1) := by decide +kernel
theorem dL_law__1865 : decode cL_law_ 1865 = .ok (.iload 4, 2) := by decide +kernel
theorem dL_law__1867 : decode cL_law_ 1867 = .ok (.iconst 1, 1) := by decide +kernel
theorem dL_law__1868 : decode cL_law_ 1868 = .ok (.iadd, 1) := by decide +kernel
theorem dL_law__1869 : decode cL_law_ 1869 = .ok (.iaload, 1) := by decide +kernel
theorem dL_law__1870 : decode cL_law_ 1870 = .ok (.ifCond .eq 7, 3) := by decide +kernel
theorem dL_law__1873 : decode cL_law_ 1873 = .ok (.iconst 1, 1) := by decide +kernel
theorem dL_law__1874 : decode cL_law_ 1874 = .ok (.goto 4, 3) := by decide +kernel
theorem dL_law__1877 : decode cL_law_ 1877 = .ok (.iconst 0, 1) := by decide +kernel
theorem dL_law__1878 : decode cL_law_ 1878 = .ok (.invokevirtual 240, 3) := by decide +kernel
theorem dL_law__1881 : decode cL_law_ 1881 = .ok (.istore 6, 2) := by decide +kernel
theorem dL_law__1883 : decode cL_law_ 1883 = .ok (.aload_n 2, 1) := by decide +kernel
theorem dL_law__1884 : decode cL_law_ 1884 = .ok (.invokevirtual 158, 3) := by decide +kernel
theorem dL_law__1887 : decode cL_law_ 1887 = .ok (.iload 5, 2) := by decide +kernel
theorem dL_law__1889 : decode cL_law_ 1889 = .ok (.if_icmp .eq 5, 3) := by decide +kernel
theorem dL_law__1892 : decode cL_law_ 1892 = .ok (.iconst 0, 1) := by decide +kernel
theorem dL_law__1893 : decode cL_law_ 1893 = .ok (.ireturn, 1) := by decide +kernel
theorem dL_law__1894 : decode cL_law_ 1894 = .ok (.iload 5, 2) := by decide +kernel
theorem dL_law__1896 : decode cL_law_ 1896 = .ok (.ifCond .ne 15, 3) := by decide +kernel
theorem dL_law__1899 : decode cL_law_ 1899 = .ok (.aload_n 3, 1) := by decide +kernel
theorem dL_law__1900 : decode cL_law_ 1900 = .ok (.iconst 0, 1) := by decide +kernel
theorem dL_law__1901 : decode cL_law_ 1901 = .ok (.laload, 1) := by decide +kernel
theorem dL_law__1902 : decode cL_law_ 1902 = .ok (.iload 6, 2) := by decide +kernel
theorem dL_law__1904 : decode cL_law_ 1904 = .ok (.i2l, 1) := by decide +kernel
theorem dL_law__1905 : decode cL_law_ 1905 = .ok (.lcmp, 1) := by decide +kernel
theorem dL_law__1906 : decode cL_law_ 1906 = .ok (.ifCond .eq 5, 3) := by decide +kernel
theorem dL_law__1909 : decode cL_law_ 1909 = .ok (.iconst 0, 1) := by decide +kernel
theorem dL_law__1910 : decode cL_law_ 1910 = .ok (.ireturn, 1) := by decide +kernel
theorem dL_law__1911 : decode cL_law_ 1911 = .ok (.goto 1162, 3) := by decide +kernel
theorem dL_law__1914 : decode cL_law_ 1914 = .ok (.aload_n 1, 1) := by decide +kernel
theorem dL_law__1915 : decode cL_law_ 1915 = .ok (.aload_n 3, 1) := by decide +kernel
theorem dL_law__1916 : decode cL_law_ 1916 = .ok (.invokestatic 241, 3) := by decide +kernel
theorem dL_law__1919 : decode cL_law_ 1919 = .ok (.istore 5, 2) := by decide +kernel
theorem dL_law__1921 : decode cL_law_ 1921 = .ok (.aload_n 2, 1) := by decide +kernel
theorem dL_law__1922 : decode cL_law_ 1922 = .ok (.invokevirtual 243, 3) := by decide +kernel
theorem dL_law__1925 : decode cL_law_ 1925 = .ok (.istore 6, 2) := by decide +kernel
theorem dL_law__1927 : decode cL_law_ 1927 = .ok (.aload_n 2, 1) := by decide +kernel
theorem dL_law__1928 : decode cL_law_ 1928 = .ok (.invokevirtual 158, 3) := by decide +kernel
theorem dL_law__1931 : decode cL_law_ 1931 = .ok (.iload 5, 2) := by decide +kernel
theorem dL_law__1933 : decode cL_law_ 1933 = .ok (.if_icmp .eq 5, 3) := by decide +kernel
theorem dL_law__1936 : decode cL_law_ 1936 = .ok (.iconst 0, 1) := by decide +kernel
theorem dL_law__1937 : decode cL_law_ 1937 = .ok (.ireturn, 1) := by decide +kernel
theorem dL_law__1938 : decode cL_law_ 1938 = .ok (.iload 5, 2) := by decide +kernel
theorem dL_law__1940 : decode cL_law_ 1940 = .ok (.ifCond .ne 15, 3) := by decide +kernel
theorem dL_law__1943 : decode cL_law_ 1943 = .ok (.aload_n 3, 1) := by decide +kernel
theorem dL_law__1944 : decode cL_law_ 1944 = .ok (.iconst 0, 1) := by decide +kernel
theorem dL_law__1945 : decode cL_law_ 1945 = .ok (.laload, 1) := by decide +kernel
theorem dL_law__1946 : decode cL_law_ 1946 = .ok (.iload 6, 2) := by decide +kernel
theorem dL_law__1948 : decode cL_law_ 1948 = .ok (.i2l, 1) := by decide +kernel
theorem dL_law__1949 : decode cL_law_ 1949 = .ok (.lcmp, 1) := by decide +kernel
theorem dL_law__1950 : decode cL_law_ 1950 = .ok (.ifCond .eq 5, 3) := by decide +kernel
theorem dL_law__1953 : decode cL_law_ 1953 = .ok (.iconst 0, 1) := by decide +kernel
theorem dL_law__1954 : decode cL_law_ 1954 = .ok (.ireturn, 1) := by decide +kernel
theorem dL_law__1955 : decode cL_law_ 1955 = .ok (.goto 1118, 3) := by decide +kernel
theorem dL_law__1958 : decode cL_law_ 1958 = .ok (.aload_n 1, 1) := by decide +kernel
theorem dL_law__1959 : decode cL_law_ 1959 = .ok (.aload_n 0, 1) := by decide +kernel
theorem dL_law__1960 : decode cL_law_ 1960 = .ok (.iload 4, 2) := by decide +kernel
theorem dL_law__1962 : decode cL_law_ 1962 = .ok (.iconst 1, 1) := by decide +kernel
theorem dL_law__1963 : decode cL_law_ 1963 = .ok (.iadd, 1) := by decide +kernel
theorem dL_law__1964 : decode cL_law_ 1964 = .ok (.iaload, 1) := by decide +kernel
theorem dL_law__1965 : decode cL_law_ 1965 = .ok (.aload_n 0, 1) := by decide +kernel
theorem dL_law__1966 : decode cL_law_ 1966 = .ok (.iload 4, 2) := by decide +kernel
theorem dL_law__1968 : decode cL_law_ 1968 = .ok (.iconst 2, 1) := by decide +kernel
theorem dL_law__1969 : decode cL_law_ 1969 = .ok (.iadd, 1) := by decide +kernel
theorem dL_law__1970 : decode cL_law_ 1970 = .ok (.iaload, 1) := by decide +kernel
theorem dL_law__1971 : decode cL_law_ 1971 = .ok (.aload_n 0, 1) := by decide +kernel
theorem dL_law__1972 : decode cL_law_ 1972 = .ok (.iload 4, 2) := by decide +kernel
theorem dL_law__1974 : decode cL_law_ 1974 = .ok (.iconst 3, 1) := by decide +kernel
theorem dL_law__1975 : decode cL_law_ 1975 = .ok (.iadd, 1) := by decide +kernel
theorem dL_law__1976 : decode cL_law_ 1976 = .ok (.iaload, 1) := by decide +kernel
theorem dL_law__1977 : decode cL_law_ 1977 = .ok (.aload_n 3, 1) := by decide +kernel
theorem dL_law__1978 : decode cL_law_ 1978 = .ok (.invokestatic 244, 3) := by decide +kernel
theorem dL_law__1981 : decode cL_law_ 1981 = .ok (.istore 5, 2) := by decide +kernel
theorem dL_law__1983 : decode cL_law_ 1983 = .ok (.aload_n 2, 1) := by decide +kernel
theorem dL_law__1984 : decode cL_law_ 1984 = .ok (.aload_n 0, 1) := by decide +kernel
theorem dL_law__1985 : decode cL_law_ 1985 = .ok (.iload 4, 2) := by decide +kernel
theorem dL_law__1987 : decode cL_law_ 1987 = .ok (.iconst 1, 1) := by decide +kernel
theorem dL_law__1988 : decode cL_law_ 1988 = .ok (.iadd, 1) := by decide +kernel
theorem dL_law__1989 : decode cL_law_ 1989 = .ok (.iaload, 1) := by decide +kernel
theorem dL_law__1990 : decode cL_law_ 1990 = .ok (.aload_n 0, 1) := by decide +kernel
theorem dL_law__1991 : decode cL_law_ 1991 = .ok (.iload 4, 2) := by decide +kernel
theorem dL_law__1993 : decode cL_law_ 1993 = .ok (.iconst 2, 1) := by decide +kernel
theorem dL_law__1994 : decode cL_law_ 1994 = .ok (.iadd, 1) := by decide +kernel
theorem dL_law__1995 : decode cL_law_ 1995 = .ok (.iaload, 1) := by decide +kernel
theorem dL_law__1996 : decode cL_law_ 1996 = .ok (.aload_n 0, 1) := by decide +kernel
theorem dL_law__1997 : decode cL_law_ 1997 = .ok (.iload 4, 2) := by decide +kernel
theorem dL_law__1999 : decode cL_law_ 1999 = .ok (.iconst 3, 1) := by decide +kernel
theorem dL_law__2000 : decode cL_law_ 2000 = .ok (.iadd, 1) := by decide +kernel
theorem dL_law__2001 : decode cL_law_ 2001 = .ok (.iaload, 1) := by decide +kernel
theorem dL_law__2002 : decode cL_law_ 2002 = .ok (.invokevirtual 246, 3) := by decide +kernel
theorem dL_law__2005 : decode cL_law_ 2005 = .ok (.istore 6, 2) := by decide +kernel
theorem dL_law__2007 : decode cL_law_ 2007 = .ok (.aload_n 2, 1) := by decide +kernel
theorem dL_law__2008 : decode cL_law_ 2008 = .ok (.invokevirtual 158, 3) := by decide +kernel
theorem dL_law__2011 : decode cL_law_ 2011 = .ok (.iload 5, 2) := by decide +kernel
theorem dL_law__2013 : decode cL_law_ 2013 = .ok (.if_icmp .eq 5, 3) := by decide +kernel
theorem dL_law__2016 : decode cL_law_ 2016 = .ok (.iconst 0, 1) := by decide +kernel
theorem dL_law__2017 : decode cL_law_ 2017 = .ok (.ireturn, 1) := by decide +kernel
theorem dL_law__2018 : decode cL_law_ 2018 = .ok (.iload 5, 2) := by decide +kernel
theorem dL_law__2020 : decode cL_law_ 2020 = .ok (.ifCond .ne 15, 3) := by decide +kernel
theorem dL_law__2023 : decode cL_law_ 2023 = .ok (.aload_n 3, 1) := by decide +kernel
theorem dL_law__2024 : decode cL_law_ 2024 = .ok (.iconst 0, 1) := by decide +kernel
theorem dL_law__2025 : decode cL_law_ 2025 = .ok (.laload, 1) := by decide +kernel
theorem dL_law__2026 : decode cL_law_ 2026 = .ok (.iload 6, 2) := by decide +kernel
theorem dL_law__2028 : decode cL_law_ 2028 = .ok (.i2l, 1) := by decide +kernel
theorem dL_law__2029 : decode cL_law_ 2029 = .ok (.lcmp, 1) := by decide +kernel
theorem dL_law__2030 : decode cL_law_ 2030 = .ok (.ifCond .eq 5, 3) := by decide +kernel
theorem dL_law__2033 : decode cL_law_ 2033 = .ok (.iconst 0, 1) := by decide +kernel
theorem dL_law__2034 : decode cL_law_ 2034 = .ok (.ireturn, 1) := by decide +kernel
theorem dL_law__2035 : decode cL_law_ 2035 = .ok (.goto 1038, 3) := by decide +kernel
theorem dL_law__2038 : decode cL_law_ 2038 = .ok (.aload_n 1, 1) := by decide +kernel
theorem dL_law__2039 : decode cL_law_ 2039 = .ok (.aload_n 0, 1) := by decide +kernel
theorem dL_law__2040 : decode cL_law_ 2040 = .ok (.iload 4, 2) := by decide +kernel
theorem dL_law__2042 : decode cL_law_ 2042 = .ok (.iconst 1, 1) := by decide +kernel
theorem dL_law__2043 : decode cL_law_ 2043 = .ok (.iadd, 1) := by decide +kernel
theorem dL_law__2044 : decode cL_law_ 2044 = .ok (.iaload, 1) := by decide +kernel
theorem dL_law__2045 : decode cL_law_ 2045 = .ok (.aload_n 0, 1) := by decide +kernel
theorem dL_law__2046 : decode cL_law_ 2046 = .ok (.iload 4, 2) := by decide +kernel
theorem dL_law__2048 : decode cL_law_ 2048 = .ok (.iconst 2, 1) := by decide +kernel
theorem dL_law__2049 : decode cL_law_ 2049 = .ok (.iadd, 1) := by decide +kernel
theorem dL_law__2050 : decode cL_law_ 2050 = .ok (.iaload, 1) := by decide +kernel
theorem dL_law__2051 : decode cL_law_ 2051 = .ok (.aload_n 3, 1) := by decide +kernel
theorem dL_law__2052 : decode cL_law_ 2052 = .ok (.invokestatic 247, 3) := by decide +kernel
theorem dL_law__2055 : decode cL_law_ 2055 = .ok (.istore 5, 2) := by decide +kernel
theorem dL_law__2057 : decode cL_law_ 2057 = .ok (.aload_n 2, 1) := by decide +kernel
theorem dL_law__2058 : decode cL_law_ 2058 = .ok (.aload_n 0, 1) := by decide +kernel
theorem dL_law__2059 : decode cL_law_ 2059 = .ok (.iload 4, 2) := by decide +kernel
theorem dL_law__2061 : decode cL_law_ 2061 = .ok (.iconst 1, 1) := by decide +kernel
theorem dL_law__2062 : decode cL_law_ 2062 = .ok (.iadd, 1) := by decide +kernel
theorem dL_law__2063 : decode cL_law_ 2063 = .ok (.iaload, 1) := by decide +kernel
theorem dL_law__2064 : decode cL_law_ 2064 = .ok (.aload_n 0, 1) := by decide +kernel
theorem dL_law__2065 : decode cL_law_ 2065 = .ok (.iload 4, 2) := by decide +kernel
theorem dL_law__2067 : decode cL_law_ 2067 = .ok (.iconst 2, 1) := by decide +kernel
theorem dL_law__2068 : decode cL_law_ 2068 = .ok (.iadd, 1) := by decide +kernel
theorem dL_law__2069 : decode cL_law_ 2069 = .ok (.iaload, 1) := by decide +kernel
theorem dL_law__2070 : decode cL_law_ 2070 = .ok (.invokevirtual 249, 3) := by decide +kernel
theorem dL_law__2073 : decode cL_law_ 2073 = .ok (.istore 6, 2) := by decide +kernel
theorem dL_law__2075 : decode cL_law_ 2075 = .ok (.aload_n 2, 1) := by decide +kernel
theorem dL_law__2076 : decode cL_law_ 2076 = .ok (.invokevirtual 158, 3) := by decide +kernel
theorem dL_law__2079 : decode cL_law_ 2079 = .ok (.iload 5, 2) := by decide +kernel
theorem dL_law__2081 : decode cL_law_ 2081 = .ok (.if_icmp .eq 5, 3) := by decide +kernel
theorem dL_law__2084 : decode cL_law_ 2084 = .ok (.iconst 0, 1) := by decide +kernel
theorem dL_law__2085 : decode cL_law_ 2085 = .ok (.ireturn, 1) := by decide +kernel
theorem dL_law__2086 : decode cL_law_ 2086 = .ok (.iload 5, 2) := by decide +kernel
theorem dL_law__2088 : decode cL_law_ 2088 = .ok (.ifCond .ne 15, 3) := by decide +kernel
theorem dL_law__2091 : decode cL_law_ 2091 = .ok (.aload_n 3, 1) := by decide +kernel
theorem dL_law__2092 : decode cL_law_ 2092 = .ok (.iconst 0, 1) := by decide +kernel
theorem dL_law__2093 : decode cL_law_ 2093 = .ok (.laload, 1) := by decide +kernel
theorem dL_law__2094 : decode cL_law_ 2094 = .ok (.iload 6, 2) := by decide +kernel
theorem dL_law__2096 : decode cL_law_ 2096 = .ok (.i2l, 1) := by decide +kernel
theorem dL_law__2097 : decode cL_law_ 2097 = .ok (.lcmp, 1) := by decide +kernel
theorem dL_law__2098 : decode cL_law_ 2098 = .ok (.ifCond .eq 5, 3) := by decide +kernel
theorem dL_law__2101 : decode cL_law_ 2101 = .ok (.iconst 0, 1) := by decide +kernel
theorem dL_law__2102 : decode cL_law_ 2102 = .ok (.ireturn, 1) := by decide +kernel
theorem dL_law__2103 : decode cL_law_ 2103 = .ok (.goto 970, 3) := by decide +kernel
theorem dL_law__2106 : decode cL_law_ 2106 = .ok (.aload_n 1, 1) := by decide +kernel
theorem dL_law__2107 : decode cL_law_ 2107 = .ok (.invokevirtual 250, 3) := by decide +kernel
theorem dL_law__2110 : decode cL_law_ 2110 = .ok (.aload_n 2, 1) := by decide +kernel
theorem dL_law__2111 : decode cL_law_ 2111 = .ok (.invokevirtual 253, 3) := by decide +kernel
theorem dL_law__2114 : decode cL_law_ 2114 = .ok (.if_icmp .eq 959, 3) := by decide +kernel
theorem dL_law__2117 : decode cL_law_ 2117 = .ok (.iconst 0, 1) := by decide +kernel
theorem dL_law__2118 : decode cL_law_ 2118 = .ok (.ireturn, 1) := by decide +kernel
theorem dL_law__2119 : decode cL_law_ 2119 = .ok (.aload_n 1, 1) := by decide +kernel
theorem dL_law__2120 : decode cL_law_ 2120 = .ok (.invokevirtual 254, 3) := by decide +kernel
theorem dL_law__2123 : decode cL_law_ 2123 = .ok (.aload_n 2, 1) := by decide +kernel
theorem dL_law__2124 : decode cL_law_ 2124 = .ok (.invokevirtual 257, 3) := by decide +kernel
theorem dL_law__2127 : decode cL_law_ 2127 = .ok (.if_icmp .eq 946, 3) := by decide +kernel
theorem dL_law__2130 : decode cL_law_ 2130 = .ok (.iconst 0, 1) := by decide +kernel
theorem dL_law__2131 : decode cL_law_ 2131 = .ok (.ireturn, 1) := by decide +kernel
theorem dL_law__2132 : decode cL_law_ 2132 = .ok (.aload_n 1, 1) := by decide +kernel
theorem dL_law__2133 : decode cL_law_ 2133 = .ok (.aload_n 0, 1) := by decide +kernel
theorem dL_law__2134 : decode cL_law_ 2134 = .ok (.iload 4, 2) := by decide +kernel
theorem dL_law__2136 : decode cL_law_ 2136 = .ok (.iconst 1, 1) := by decide +kernel
theorem dL_law__2137 : decode cL_law_ 2137 = .ok (.iadd, 1) := by decide +kernel
theorem dL_law__2138 : decode cL_law_ 2138 = .ok (.iaload, 1) := by decide +kernel
theorem dL_law__2139 : decode cL_law_ 2139 = .ok (.aload_n 3, 1) := by decide +kernel
theorem dL_law__2140 : decode cL_law_ 2140 = .ok (.invokestatic 258, 3) := by decide +kernel
theorem dL_law__2143 : decode cL_law_ 2143 = .ok (.istore 5, 2) := by decide +kernel
theorem dL_law__2145 : decode cL_law_ 2145 = .ok (.aload_n 2, 1) := by decide +kernel
theorem dL_law__2146 : decode cL_law_ 2146 = .ok (.aload_n 0, 1) := by decide +kernel
theorem dL_law__2147 : decode cL_law_ 2147 = .ok (.iload 4, 2) := by decide +kernel
theorem dL_law__2149 : decode cL_law_ 2149 = .ok (.iconst 1, 1) := by decide +kernel
theorem dL_law__2150 : decode cL_law_ 2150 = .ok (.iadd, 1) := by decide +kernel
theorem dL_law__2151 : decode cL_law_ 2151 = .ok (.iaload, 1) := by decide +kernel
theorem dL_law__2152 : decode cL_law_ 2152 = .ok (.invokevirtual 260, 3) := by decide +kernel
theorem dL_law__2155 : decode cL_law_ 2155 = .ok (.istore 6, 2) := by decide +kernel
theorem dL_law__2157 : decode cL_law_ 2157 = .ok (.aload_n 2, 1) := by decide +kernel
theorem dL_law__2158 : decode cL_law_ 2158 = .ok (.invokevirtual 158, 3) := by decide +kernel
theorem dL_law__2161 : decode cL_law_ 2161 = .ok (.iload 5, 2) := by decide +kernel
theorem dL_law__2163 : decode cL_law_ 2163 = .ok (.if_icmp .eq 5, 3) := by decide +kernel
theorem dL_law__2166 : decode cL_law_ 2166 = .ok (.iconst 0, 1) := by decide +kernel
theorem dL_law__2167 : decode cL_law_ 2167 = .ok (.ireturn, 1) := by decide +kernel
theorem dL_law__2168 : decode cL_law_ 2168 = .ok (.iload 5, 2) := by decide +kernel
theorem dL_law__2170 : decode cL_law_ 2170 = .ok (.ifCond .ne 15, 3) := by decide +kernel
theorem dL_law__2173 : decode cL_law_ 2173 = .ok (.aload_n 3, 1) := by decide +kernel
theorem dL_law__2174 : decode cL_law_ 2174 = .ok (.iconst 0, 1) := by decide +kernel
theorem dL_law__2175 : decode cL_law_ 2175 = .ok (.laload, 1) := by decide +kernel
theorem dL_law__2176 : decode cL_law_ 2176 = .ok (.iload 6, 2) := by decide +kernel
theorem dL_law__2178 : decode cL_law_ 2178 = .ok (.i2l, 1) := by decide +kernel
theorem dL_law__2179 : decode cL_law_ 2179 = .ok (.lcmp, 1) := by decide +kernel
theorem dL_law__2180 : decode cL_law_ 2180 = .ok (.ifCond .eq 5, 3) := by decide +kernel
theorem dL_law__2183 : decode cL_law_ 2183 = .ok (.iconst 0, 1) := by decide +kernel
theorem dL_law__2184 : decode cL_law_ 2184 = .ok (.ireturn, 1) := by decide +kernel
theorem dL_law__2185 : decode cL_law_ 2185 = .ok (.goto 888, 3) := by decide +kernel
theorem dL_law__2188 : decode cL_law_ 2188 = .ok (.aload_n 1, 1) := by decide +kernel
theorem dL_law__2189 : decode cL_law_ 2189 = .ok (.aload_n 0, 1) := by decide +kernel
theorem dL_law__2190 : decode cL_law_ 2190 = .ok (.iload 4, 2) := by decide +kernel
theorem dL_law__2192 : decode cL_law_ 2192 = .ok (.iconst 1, 1) := by decide +kernel
theorem dL_law__2193 : decode cL_law_ 2193 = .ok (.iadd, 1) := by decide +kernel
theorem dL_law__2194 : decode cL_law_ 2194 = .ok (.iaload, 1) := by decide +kernel
theorem dL_law__2195 : decode cL_law_ 2195 = .ok (.aload_n 3, 1) := by decide +kernel
theorem dL_law__2196 : decode cL_law_ 2196 = .ok (.invokestatic 261, 3) := by decide +kernel
theorem dL_law__2199 : decode cL_law_ 2199 = .ok (.istore 5, 2) := by decide +kernel
theorem dL_law__2201 : decode cL_law_ 2201 = .ok (.aload_n 2, 1) := by decide +kernel
theorem dL_law__2202 : decode cL_law_ 2202 = .ok (.aload_n 0, 1) := by decide +kernel
theorem dL_law__2203 : decode cL_law_ 2203 = .ok (.iload 4, 2) := by decide +kernel
theorem dL_law__2205 : decode cL_law_ 2205 = .ok (.iconst 1, 1) := by decide +kernel
theorem dL_law__2206 : decode cL_law_ 2206 = .ok (.iadd, 1) := by decide +kernel
theorem dL_law__2207 : decode cL_law_ 2207 = .ok (.iaload, 1) := by decide +kernel
theorem dL_law__2208 : decode cL_law_ 2208 = .ok (.invokevirtual 263, 3) := by decide +kernel
theorem dL_law__2211 : decode cL_law_ 2211 = .ok (.istore 6, 2) := by decide +kernel
theorem dL_law__2213 : decode cL_law_ 2213 = .ok (.aload_n 2, 1) := by decide +kernel
theorem dL_law__2214 : decode cL_law_ 2214 = .ok (.invokevirtual 158, 3) := by decide +kernel
theorem dL_law__2217 : decode cL_law_ 2217 = .ok (.iload 5, 2) := by decide +kernel
theorem dL_law__2219 : decode cL_law_ 2219 = .ok (.if_icmp .eq 5, 3) := by decide +kernel
theorem dL_law__2222 : decode cL_law_ 2222 = .ok (.iconst 0, 1) := by decide +kernel
theorem dL_law__2223 : decode cL_law_ 2223 = .ok (.ireturn, 1) := by decide +kernel
theorem dL_law__2224 : decode cL_law_ 2224 = .ok (.iload 5, 2) := by decide +kernel
theorem dL_law__2226 : decode cL_law_ 2226 = .ok (.ifCond .ne 15, 3) := by decide +kernel
theorem dL_law__2229 : decode cL_law_ 2229 = .ok (.aload_n 3, 1) := by decide +kernel
theorem dL_law__2230 : decode cL_law_ 2230 = .ok (.iconst 0, 1) := by decide +kernel
theorem dL_law__2231 : decode cL_law_ 2231 = .ok (.laload, 1) := by decide +kernel
theorem dL_law__2232 : decode cL_law_ 2232 = .ok (.iload 6, 2) := by decide +kernel
theorem dL_law__2234 : decode cL_law_ 2234 = .ok (.i2l, 1) := by decide +kernel
theorem dL_law__2235 : decode cL_law_ 2235 = .ok (.lcmp, 1) := by decide +kernel
theorem dL_law__2236 : decode cL_law_ 2236 = .ok (.ifCond .eq 5, 3) := by decide +kernel
theorem dL_law__2239 : decode cL_law_ 2239 = .ok (.iconst 0, 1) := by decide +kernel
theorem dL_law__2240 : decode cL_law_ 2240 = .ok (.ireturn, 1) := by decide +kernel
theorem dL_law__2241 : decode cL_law_ 2241 = .ok (.goto 832, 3) := by decide +kernel
theorem dL_law__2244 : decode cL_law_ 2244 = .ok (.aload_n 1, 1) := by decide +kernel
theorem dL_law__2245 : decode cL_law_ 2245 = .ok (.invokevirtual 264, 3) := by decide +kernel
theorem dL_law__2248 : decode cL_law_ 2248 = .ok (.aload_n 2, 1) := by decide +kernel
theorem dL_law__2249 : decode cL_law_ 2249 = .ok (.invokevirtual 267, 3) := by decide +kernel
theorem dL_law__2252 : decode cL_law_ 2252 = .ok (.if_icmp .eq 821, 3) := by decide +kernel
theorem dL_law__2255 : decode cL_law_ 2255 = .ok (.iconst 0, 1) := by decide +kernel
theorem dL_law__2256 : decode cL_law_ 2256 = .ok (.ireturn, 1) := by decide +kernel
theorem dL_law__2257 : decode cL_law_ 2257 = .ok (.aload_n 1, 1) := by decide +kernel
theorem dL_law__2258 : decode cL_law_ 2258 = .ok (.aload_n 0, 1) := by decide +kernel
theorem dL_law__2259 : decode cL_law_ 2259 = .ok (.iload 4, 2) := by decide +kernel
theorem dL_law__2261 : decode cL_law_ 2261 = .ok (.iconst 1, 1) := by decide +kernel
theorem dL_law__2262 : decode cL_law_ 2262 = .ok (.iadd, 1) := by decide +kernel
theorem dL_law__2263 : decode cL_law_ 2263 = .ok (.iaload, 1) := by decide +kernel
theorem dL_law__2264 : decode cL_law_ 2264 = .ok (.aload_n 0, 1) := by decide +kernel
theorem dL_law__2265 : decode cL_law_ 2265 = .ok (.iload 4, 2) := by decide +kernel
theorem dL_law__2267 : decode cL_law_ 2267 = .ok (.iconst 2, 1) := by decide +kernel
theorem dL_law__2268 : decode cL_law_ 2268 = .ok (.iadd, 1) := by decide +kernel
theorem dL_law__2269 : decode cL_law_ 2269 = .ok (.iaload, 1) := by decide +kernel
theorem dL_law__2270 : decode cL_law_ 2270 = .ok (.aload_n 3, 1) := by decide +kernel
theorem dL_law__2271 : decode cL_law_ 2271 = .ok (.invokestatic 268, 3) := by decide +kernel
theorem dL_law__2274 : decode cL_law_ 2274 = .ok (.istore 5, 2) := by decide +kernel
theorem dL_law__2276 : decode cL_law_ 2276 = .ok (.aload_n 2, 1) := by decide +kernel
theorem dL_law__2277 : decode cL_law_ 2277 = .ok (.aload_n 0, 1) := by decide +kernel
theorem dL_law__2278 : decode cL_law_ 2278 = .ok (.iload 4, 2) := by decide +kernel
theorem dL_law__2280 : decode cL_law_ 2280 = .ok (.iconst 1, 1) := by decide +kernel
theorem dL_law__2281 : decode cL_law_ 2281 = .ok (.iadd, 1) := by decide +kernel
theorem dL_law__2282 : decode cL_law_ 2282 = .ok (.iaload, 1) := by decide +kernel
theorem dL_law__2283 : decode cL_law_ 2283 = .ok (.aload_n 0, 1) := by decide +kernel
theorem dL_law__2284 : decode cL_law_ 2284 = .ok (.iload 4, 2) := by decide +kernel
theorem dL_law__2286 : decode cL_law_ 2286 = .ok (.iconst 2, 1) := by decide +kernel
theorem dL_law__2287 : decode cL_law_ 2287 = .ok (.iadd, 1) := by decide +kernel
theorem dL_law__2288 : decode cL_law_ 2288 = .ok (.iaload, 1) := by decide +kernel
theorem dL_law__2289 : decode cL_law_ 2289 = .ok (.invokevirtual 270, 3) := by decide +kernel
theorem dL_law__2292 : decode cL_law_ 2292 = .ok (.istore 6, 2) := by decide +kernel
theorem dL_law__2294 : decode cL_law_ 2294 = .ok (.aload_n 2, 1) := by decide +kernel
theorem dL_law__2295 : decode cL_law_ 2295 = .ok (.invokevirtual 158, 3) := by decide +kernel
theorem dL_law__2298 : decode cL_law_ 2298 = .ok (.iload 5, 2) := by decide +kernel
theorem dL_law__2300 : decode cL_law_ 2300 = .ok (.if_icmp .eq 5, 3) := by decide +kernel
theorem dL_law__2303 : decode cL_law_ 2303 = .ok (.iconst 0, 1) := by decide +kernel
theorem dL_law__2304 : decode cL_law_ 2304 = .ok (.ireturn, 1) := by decide +kernel
theorem dL_law__2305 : decode cL_law_ 2305 = .ok (.iload 5, 2) := by decide +kernel
theorem dL_law__2307 : decode cL_law_ 2307 = .ok (.ifCond .ne 15, 3) := by decide +kernel
theorem dL_law__2310 : decode cL_law_ 2310 = .ok (.aload_n 3, 1) := by decide +kernel
theorem dL_law__2311 : decode cL_law_ 2311 = .ok (.iconst 0, 1) := by decide +kernel
theorem dL_law__2312 : decode cL_law_ 2312 = .ok (.laload, 1) := by decide +kernel
theorem dL_law__2313 : decode cL_law_ 2313 = .ok (.iload 6, 2) := by decide +kernel
theorem dL_law__2315 : decode cL_law_ 2315 = .ok (.i2l, 1) := by decide +kernel
theorem dL_law__2316 : decode cL_law_ 2316 = .ok (.lcmp, 1) := by decide +kernel
theorem dL_law__2317 : decode cL_law_ 2317 = .ok (.ifCond .eq 5, 3) := by decide +kernel
theorem dL_law__2320 : decode cL_law_ 2320 = .ok (.iconst 0, 1) := by decide +kernel
theorem dL_law__2321 : decode cL_law_ 2321 = .ok (.ireturn, 1) := by decide +kernel
theorem dL_law__2322 : decode cL_law_ 2322 = .ok (.goto 751, 3) := by decide +kernel
theorem dL_law__2325 : decode cL_law_ 2325 = .ok (.aload_n 1, 1) := by decide +kernel
