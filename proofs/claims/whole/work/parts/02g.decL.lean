/-! decode rows of the law's body, 7 -/
theorem dL_law_1696 : decode code 1696 = .ok (.iload 4, 2) := by decide +kernel
theorem dL_law_1698 : decode code 1698 = .ok (.iconst 3, 1) := by decide +kernel
theorem dL_law_1699 : decode code 1699 = .ok (.iadd, 1) := by decide +kernel
theorem dL_law_1700 : decode code 1700 = .ok (.iaload, 1) := by decide +kernel
theorem dL_law_1701 : decode code 1701 = .ok (.invokevirtual 261, 3) := by decide +kernel
theorem dL_law_1704 : decode code 1704 = .ok (.istore 6, 2) := by decide +kernel
theorem dL_law_1706 : decode code 1706 = .ok (.aload_n 2, 1) := by decide +kernel
theorem dL_law_1707 : decode code 1707 = .ok (.invokevirtual 166, 3) := by decide +kernel
theorem dL_law_1710 : decode code 1710 = .ok (.iload 5, 2) := by decide +kernel
theorem dL_law_1712 : decode code 1712 = .ok (.if_icmp .eq 5, 3) := by decide +kernel
theorem dL_law_1715 : decode code 1715 = .ok (.iconst 0, 1) := by decide +kernel
theorem dL_law_1716 : decode code 1716 = .ok (.ireturn, 1) := by decide +kernel
theorem dL_law_1717 : decode code 1717 = .ok (.iload 5, 2) := by decide +kernel
theorem dL_law_1719 : decode code 1719 = .ok (.ifCond .ne 15, 3) := by decide +kernel
theorem dL_law_1722 : decode code 1722 = .ok (.aload_n 3, 1) := by decide +kernel
theorem dL_law_1723 : decode code 1723 = .ok (.iconst 0, 1) := by decide +kernel
theorem dL_law_1724 : decode code 1724 = .ok (.laload, 1) := by decide +kernel
theorem dL_law_1725 : decode code 1725 = .ok (.iload 6, 2) := by decide +kernel
theorem dL_law_1727 : decode code 1727 = .ok (.i2l, 1) := by decide +kernel
theorem dL_law_1728 : decode code 1728 = .ok (.lcmp, 1) := by decide +kernel
theorem dL_law_1729 : decode code 1729 = .ok (.ifCond .eq 5, 3) := by decide +kernel
theorem dL_law_1732 : decode code 1732 = .ok (.iconst 0, 1) := by decide +kernel
theorem dL_law_1733 : decode code 1733 = .ok (.ireturn, 1) := by decide +kernel
theorem dL_law_1734 : decode code 1734 = .ok (.goto 1747, 3) := by decide +kernel
theorem dL_law_1737 : decode code 1737 = .ok (.aload_n 1, 1) := by decide +kernel
theorem dL_law_1738 : decode code 1738 = .ok (.aload_n 0, 1) := by decide +kernel
theorem dL_law_1739 : decode code 1739 = .ok (.iload 4, 2) := by decide +kernel
theorem dL_law_1741 : decode code 1741 = .ok (.iconst 1, 1) := by decide +kernel
theorem dL_law_1742 : decode code 1742 = .ok (.iadd, 1) := by decide +kernel
theorem dL_law_1743 : decode code 1743 = .ok (.iaload, 1) := by decide +kernel
theorem dL_law_1744 : decode code 1744 = .ok (.aload_n 0, 1) := by decide +kernel
theorem dL_law_1745 : decode code 1745 = .ok (.iload 4, 2) := by decide +kernel
theorem dL_law_1747 : decode code 1747 = .ok (.iconst 2, 1) := by decide +kernel
theorem dL_law_1748 : decode code 1748 = .ok (.iadd, 1) := by decide +kernel
theorem dL_law_1749 : decode code 1749 = .ok (.iaload, 1) := by decide +kernel
theorem dL_law_1750 : decode code 1750 = .ok (.ifCond .eq 7, 3) := by decide +kernel
theorem dL_law_1753 : decode code 1753 = .ok (.iconst 1, 1) := by decide +kernel
theorem dL_law_1754 : decode code 1754 = .ok (.goto 4, 3) := by decide +kernel
theorem dL_law_1757 : decode code 1757 = .ok (.iconst 0, 1) := by decide +kernel
theorem dL_law_1758 : decode code 1758 = .ok (.aload_n 0, 1) := by decide +kernel
theorem dL_law_1759 : decode code 1759 = .ok (.iload 4, 2) := by decide +kernel
theorem dL_law_1761 : decode code 1761 = .ok (.iconst 3, 1) := by decide +kernel
theorem dL_law_1762 : decode code 1762 = .ok (.iadd, 1) := by decide +kernel
theorem dL_law_1763 : decode code 1763 = .ok (.iaload, 1) := by decide +kernel
theorem dL_law_1764 : decode code 1764 = .ok (.aload_n 3, 1) := by decide +kernel
theorem dL_law_1765 : decode code 1765 = .ok (.invokestatic 262, 3) := by decide +kernel
theorem dL_law_1768 : decode code 1768 = .ok (.istore 5, 2) := by decide +kernel
theorem dL_law_1770 : decode code 1770 = .ok (.aload_n 2, 1) := by decide +kernel
theorem dL_law_1771 : decode code 1771 = .ok (.aload_n 0, 1) := by decide +kernel
theorem dL_law_1772 : decode code 1772 = .ok (.iload 4, 2) := by decide +kernel
theorem dL_law_1774 : decode code 1774 = .ok (.iconst 1, 1) := by decide +kernel
theorem dL_law_1775 : decode code 1775 = .ok (.iadd, 1) := by decide +kernel
theorem dL_law_1776 : decode code 1776 = .ok (.iaload, 1) := by decide +kernel
theorem dL_law_1777 : decode code 1777 = .ok (.aload_n 0, 1) := by decide +kernel
theorem dL_law_1778 : decode code 1778 = .ok (.iload 4, 2) := by decide +kernel
theorem dL_law_1780 : decode code 1780 = .ok (.iconst 2, 1) := by decide +kernel
theorem dL_law_1781 : decode code 1781 = .ok (.iadd, 1) := by decide +kernel
theorem dL_law_1782 : decode code 1782 = .ok (.iaload, 1) := by decide +kernel
theorem dL_law_1783 : decode code 1783 = .ok (.ifCond .eq 7, 3) := by decide +kernel
theorem dL_law_1786 : decode code 1786 = .ok (.iconst 1, 1) := by decide +kernel
theorem dL_law_1787 : decode code 1787 = .ok (.goto 4, 3) := by decide +kernel
theorem dL_law_1790 : decode code 1790 = .ok (.iconst 0, 1) := by decide +kernel
theorem dL_law_1791 : decode code 1791 = .ok (.aload_n 0, 1) := by decide +kernel
theorem dL_law_1792 : decode code 1792 = .ok (.iload 4, 2) := by decide +kernel
theorem dL_law_1794 : decode code 1794 = .ok (.iconst 3, 1) := by decide +kernel
theorem dL_law_1795 : decode code 1795 = .ok (.iadd, 1) := by decide +kernel
theorem dL_law_1796 : decode code 1796 = .ok (.iaload, 1) := by decide +kernel
theorem dL_law_1797 : decode code 1797 = .ok (.invokevirtual 264, 3) := by decide +kernel
theorem dL_law_1800 : decode code 1800 = .ok (.istore 6, 2) := by decide +kernel
theorem dL_law_1802 : decode code 1802 = .ok (.aload_n 2, 1) := by decide +kernel
theorem dL_law_1803 : decode code 1803 = .ok (.invokevirtual 166, 3) := by decide +kernel
theorem dL_law_1806 : decode code 1806 = .ok (.iload 5, 2) := by decide +kernel
theorem dL_law_1808 : decode code 1808 = .ok (.if_icmp .eq 5, 3) := by decide +kernel
theorem dL_law_1811 : decode code 1811 = .ok (.iconst 0, 1) := by decide +kernel
theorem dL_law_1812 : decode code 1812 = .ok (.ireturn, 1) := by decide +kernel
theorem dL_law_1813 : decode code 1813 = .ok (.iload 5, 2) := by decide +kernel
theorem dL_law_1815 : decode code 1815 = .ok (.ifCond .ne 15, 3) := by decide +kernel
theorem dL_law_1818 : decode code 1818 = .ok (.aload_n 3, 1) := by decide +kernel
theorem dL_law_1819 : decode code 1819 = .ok (.iconst 0, 1) := by decide +kernel
theorem dL_law_1820 : decode code 1820 = .ok (.laload, 1) := by decide +kernel
theorem dL_law_1821 : decode code 1821 = .ok (.iload 6, 2) := by decide +kernel
theorem dL_law_1823 : decode code 1823 = .ok (.i2l, 1) := by decide +kernel
theorem dL_law_1824 : decode code 1824 = .ok (.lcmp, 1) := by decide +kernel
theorem dL_law_1825 : decode code 1825 = .ok (.ifCond .eq 5, 3) := by decide +kernel
theorem dL_law_1828 : decode code 1828 = .ok (.iconst 0, 1) := by decide +kernel
theorem dL_law_1829 : decode code 1829 = .ok (.ireturn, 1) := by decide +kernel
theorem dL_law_1830 : decode code 1830 = .ok (.goto 1651, 3) := by decide +kernel
theorem dL_law_1833 : decode code 1833 = .ok (.aload_n 1, 1) := by decide +kernel
theorem dL_law_1834 : decode code 1834 = .ok (.aload_n 0, 1) := by decide +kernel
theorem dL_law_1835 : decode code 1835 = .ok (.iload 4, 2) := by decide +kernel
theorem dL_law_1837 : decode code 1837 = .ok (.iconst 1, 1) := by decide +kernel
theorem dL_law_1838 : decode code 1838 = .ok (.iadd, 1) := by decide +kernel
theorem dL_law_1839 : decode code 1839 = .ok (.iaload, 1) := by decide +kernel
theorem dL_law_1840 : decode code 1840 = .ok (.aload_n 0, 1) := by decide +kernel
theorem dL_law_1841 : decode code 1841 = .ok (.iload 4, 2) := by decide +kernel
theorem dL_law_1843 : decode code 1843 = .ok (.iconst 2, 1) := by decide +kernel
theorem dL_law_1844 : decode code 1844 = .ok (.iadd, 1) := by decide +kernel
theorem dL_law_1845 : decode code 1845 = .ok (.iaload, 1) := by decide +kernel
theorem dL_law_1846 : decode code 1846 = .ok (.ifCond .eq 7, 3) := by decide +kernel
theorem dL_law_1849 : decode code 1849 = .ok (.iconst 1, 1) := by decide +kernel
theorem dL_law_1850 : decode code 1850 = .ok (.goto 4, 3) := by decide +kernel
theorem dL_law_1853 : decode code 1853 = .ok (.iconst 0, 1) := by decide +kernel
theorem dL_law_1854 : decode code 1854 = .ok (.aload_n 0, 1) := by decide +kernel
theorem dL_law_1855 : decode code 1855 = .ok (.iload 4, 2) := by decide +kernel
theorem dL_law_1857 : decode code 1857 = .ok (.iconst 3, 1) := by decide +kernel
theorem dL_law_1858 : decode code 1858 = .ok (.iadd, 1) := by decide +kernel
theorem dL_law_1859 : decode code 1859 = .ok (.iaload, 1) := by decide +kernel
theorem dL_law_1860 : decode code 1860 = .ok (.aload_n 3, 1) := by decide +kernel
theorem dL_law_1861 : decode code 1861 = .ok (.invokestatic 265, 3) := by decide +kernel
theorem dL_law_1864 : decode code 1864 = .ok (.istore 5, 2) := by decide +kernel
theorem dL_law_1866 : decode code 1866 = .ok (.aload_n 2, 1) := by decide +kernel
theorem dL_law_1867 : decode code 1867 = .ok (.aload_n 0, 1) := by decide +kernel
theorem dL_law_1868 : decode code 1868 = .ok (.iload 4, 2) := by decide +kernel
theorem dL_law_1870 : decode code 1870 = .ok (.iconst 1, 1) := by decide +kernel
theorem dL_law_1871 : decode code 1871 = .ok (.iadd, 1) := by decide +kernel
theorem dL_law_1872 : decode code 1872 = .ok (.iaload, 1) := by decide +kernel
theorem dL_law_1873 : decode code 1873 = .ok (.aload_n 0, 1) := by decide +kernel
theorem dL_law_1874 : decode code 1874 = .ok (.iload 4, 2) := by decide +kernel
theorem dL_law_1876 : decode code 1876 = .ok (.iconst 2, 1) := by decide +kernel
theorem dL_law_1877 : decode code 1877 = .ok (.iadd, 1) := by decide +kernel
theorem dL_law_1878 : decode code 1878 = .ok (.iaload, 1) := by decide +kernel
theorem dL_law_1879 : decode code 1879 = .ok (.ifCond .eq 7, 3) := by decide +kernel
theorem dL_law_1882 : decode code 1882 = .ok (.iconst 1, 1) := by decide +kernel
theorem dL_law_1883 : decode code 1883 = .ok (.goto 4, 3) := by decide +kernel
theorem dL_law_1886 : decode code 1886 = .ok (.iconst 0, 1) := by decide +kernel
theorem dL_law_1887 : decode code 1887 = .ok (.aload_n 0, 1) := by decide +kernel
theorem dL_law_1888 : decode code 1888 = .ok (.iload 4, 2) := by decide +kernel
theorem dL_law_1890 : decode code 1890 = .ok (.iconst 3, 1) := by decide +kernel
theorem dL_law_1891 : decode code 1891 = .ok (.iadd, 1) := by decide +kernel
theorem dL_law_1892 : decode code 1892 = .ok (.iaload, 1) := by decide +kernel
theorem dL_law_1893 : decode code 1893 = .ok (.invokevirtual 267, 3) := by decide +kernel
theorem dL_law_1896 : decode code 1896 = .ok (.istore 6, 2) := by decide +kernel
theorem dL_law_1898 : decode code 1898 = .ok (.aload_n 2, 1) := by decide +kernel
theorem dL_law_1899 : decode code 1899 = .ok (.invokevirtual 166, 3) := by decide +kernel
theorem dL_law_1902 : decode code 1902 = .ok (.iload 5, 2) := by decide +kernel
theorem dL_law_1904 : decode code 1904 = .ok (.if_icmp .eq 5, 3) := by decide +kernel
theorem dL_law_1907 : decode code 1907 = .ok (.iconst 0, 1) := by decide +kernel
theorem dL_law_1908 : decode code 1908 = .ok (.ireturn, 1) := by decide +kernel
theorem dL_law_1909 : decode code 1909 = .ok (.iload 5, 2) := by decide +kernel
theorem dL_law_1911 : decode code 1911 = .ok (.ifCond .ne 15, 3) := by decide +kernel
theorem dL_law_1914 : decode code 1914 = .ok (.aload_n 3, 1) := by decide +kernel
theorem dL_law_1915 : decode code 1915 = .ok (.iconst 0, 1) := by decide +kernel
theorem dL_law_1916 : decode code 1916 = .ok (.laload, 1) := by decide +kernel
theorem dL_law_1917 : decode code 1917 = .ok (.iload 6, 2) := by decide +kernel
theorem dL_law_1919 : decode code 1919 = .ok (.i2l, 1) := by decide +kernel
theorem dL_law_1920 : decode code 1920 = .ok (.lcmp, 1) := by decide +kernel
theorem dL_law_1921 : decode code 1921 = .ok (.ifCond .eq 5, 3) := by decide +kernel
theorem dL_law_1924 : decode code 1924 = .ok (.iconst 0, 1) := by decide +kernel
theorem dL_law_1925 : decode code 1925 = .ok (.ireturn, 1) := by decide +kernel
theorem dL_law_1926 : decode code 1926 = .ok (.goto 1555, 3) := by decide +kernel
