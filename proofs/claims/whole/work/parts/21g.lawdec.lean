theorem dL_law__1757 : decode cL_law_ 1757 = .ok (.iadd, 1) := by decide +kernel
theorem dL_law__1758 : decode cL_law_ 1758 = .ok (.iaload, 1) := by decide +kernel
theorem dL_law__1759 : decode cL_law_ 1759 = .ok (.aload_n 0, 1) := by decide +kernel
theorem dL_law__1760 : decode cL_law_ 1760 = .ok (.iload 4, 2) := by decide +kernel
theorem dL_law__1762 : decode cL_law_ 1762 = .ok (.iconst 2, 1) := by decide +kernel
theorem dL_law__1763 : decode cL_law_ 1763 = .ok (.iadd, 1) := by decide +kernel
theorem dL_law__1764 : decode cL_law_ 1764 = .ok (.iaload, 1) := by decide +kernel
theorem dL_law__1765 : decode cL_law_ 1765 = .ok (.aload_n 0, 1) := by decide +kernel
theorem dL_law__1766 : decode cL_law_ 1766 = .ok (.iload 4, 2) := by decide +kernel
theorem dL_law__1768 : decode cL_law_ 1768 = .ok (.iconst 3, 1) := by decide +kernel
theorem dL_law__1769 : decode cL_law_ 1769 = .ok (.iadd, 1) := by decide +kernel
theorem dL_law__1770 : decode cL_law_ 1770 = .ok (.iaload, 1) := by decide +kernel
theorem dL_law__1771 : decode cL_law_ 1771 = .ok (.aload_n 0, 1) := by decide +kernel
theorem dL_law__1772 : decode cL_law_ 1772 = .ok (.iload 4, 2) := by decide +kernel
theorem dL_law__1774 : decode cL_law_ 1774 = .ok (.iconst 4, 1) := by decide +kernel
theorem dL_law__1775 : decode cL_law_ 1775 = .ok (.iadd, 1) := by decide +kernel
theorem dL_law__1776 : decode cL_law_ 1776 = .ok (.iaload, 1) := by decide +kernel
theorem dL_law__1777 : decode cL_law_ 1777 = .ok (.invokevirtual 219, 3) := by decide +kernel
theorem dL_law__1780 : decode cL_law_ 1780 = .ok (.istore 6, 2) := by decide +kernel
theorem dL_law__1782 : decode cL_law_ 1782 = .ok (.aload_n 2, 1) := by decide +kernel
theorem dL_law__1783 : decode cL_law_ 1783 = .ok (.invokevirtual 116, 3) := by decide +kernel
theorem dL_law__1786 : decode cL_law_ 1786 = .ok (.iload 5, 2) := by decide +kernel
theorem dL_law__1788 : decode cL_law_ 1788 = .ok (.if_icmp .eq 5, 3) := by decide +kernel
theorem dL_law__1791 : decode cL_law_ 1791 = .ok (.iconst 0, 1) := by decide +kernel
theorem dL_law__1792 : decode cL_law_ 1792 = .ok (.ireturn, 1) := by decide +kernel
theorem dL_law__1793 : decode cL_law_ 1793 = .ok (.iload 5, 2) := by decide +kernel
theorem dL_law__1795 : decode cL_law_ 1795 = .ok (.ifCond .ne 15, 3) := by decide +kernel
theorem dL_law__1798 : decode cL_law_ 1798 = .ok (.aload_n 3, 1) := by decide +kernel
theorem dL_law__1799 : decode cL_law_ 1799 = .ok (.iconst 0, 1) := by decide +kernel
theorem dL_law__1800 : decode cL_law_ 1800 = .ok (.laload, 1) := by decide +kernel
theorem dL_law__1801 : decode cL_law_ 1801 = .ok (.iload 6, 2) := by decide +kernel
theorem dL_law__1803 : decode cL_law_ 1803 = .ok (.i2l, 1) := by decide +kernel
theorem dL_law__1804 : decode cL_law_ 1804 = .ok (.lcmp, 1) := by decide +kernel
theorem dL_law__1805 : decode cL_law_ 1805 = .ok (.ifCond .eq 5, 3) := by decide +kernel
theorem dL_law__1808 : decode cL_law_ 1808 = .ok (.iconst 0, 1) := by decide +kernel
theorem dL_law__1809 : decode cL_law_ 1809 = .ok (.ireturn, 1) := by decide +kernel
theorem dL_law__1810 : decode cL_law_ 1810 = .ok (.goto 437, 3) := by decide +kernel
theorem dL_law__1813 : decode cL_law_ 1813 = .ok (.aload_n 1, 1) := by decide +kernel
theorem dL_law__1814 : decode cL_law_ 1814 = .ok (.aload_n 0, 1) := by decide +kernel
theorem dL_law__1815 : decode cL_law_ 1815 = .ok (.iload 4, 2) := by decide +kernel
theorem dL_law__1817 : decode cL_law_ 1817 = .ok (.iconst 1, 1) := by decide +kernel
theorem dL_law__1818 : decode cL_law_ 1818 = .ok (.iadd, 1) := by decide +kernel
theorem dL_law__1819 : decode cL_law_ 1819 = .ok (.iaload, 1) := by decide +kernel
theorem dL_law__1820 : decode cL_law_ 1820 = .ok (.aload_n 0, 1) := by decide +kernel
theorem dL_law__1821 : decode cL_law_ 1821 = .ok (.iload 4, 2) := by decide +kernel
theorem dL_law__1823 : decode cL_law_ 1823 = .ok (.iconst 2, 1) := by decide +kernel
theorem dL_law__1824 : decode cL_law_ 1824 = .ok (.iadd, 1) := by decide +kernel
theorem dL_law__1825 : decode cL_law_ 1825 = .ok (.iaload, 1) := by decide +kernel
theorem dL_law__1826 : decode cL_law_ 1826 = .ok (.aload_n 0, 1) := by decide +kernel
theorem dL_law__1827 : decode cL_law_ 1827 = .ok (.iload 4, 2) := by decide +kernel
theorem dL_law__1829 : decode cL_law_ 1829 = .ok (.iconst 3, 1) := by decide +kernel
theorem dL_law__1830 : decode cL_law_ 1830 = .ok (.iadd, 1) := by decide +kernel
theorem dL_law__1831 : decode cL_law_ 1831 = .ok (.iaload, 1) := by decide +kernel
theorem dL_law__1832 : decode cL_law_ 1832 = .ok (.aload_n 3, 1) := by decide +kernel
theorem dL_law__1833 : decode cL_law_ 1833 = .ok (.invokestatic 220, 3) := by decide +kernel
theorem dL_law__1836 : decode cL_law_ 1836 = .ok (.istore 5, 2) := by decide +kernel
theorem dL_law__1838 : decode cL_law_ 1838 = .ok (.aload_n 2, 1) := by decide +kernel
theorem dL_law__1839 : decode cL_law_ 1839 = .ok (.aload_n 0, 1) := by decide +kernel
theorem dL_law__1840 : decode cL_law_ 1840 = .ok (.iload 4, 2) := by decide +kernel
theorem dL_law__1842 : decode cL_law_ 1842 = .ok (.iconst 1, 1) := by decide +kernel
theorem dL_law__1843 : decode cL_law_ 1843 = .ok (.iadd, 1) := by decide +kernel
theorem dL_law__1844 : decode cL_law_ 1844 = .ok (.iaload, 1) := by decide +kernel
theorem dL_law__1845 : decode cL_law_ 1845 = .ok (.aload_n 0, 1) := by decide +kernel
theorem dL_law__1846 : decode cL_law_ 1846 = .ok (.iload 4, 2) := by decide +kernel
theorem dL_law__1848 : decode cL_law_ 1848 = .ok (.iconst 2, 1) := by decide +kernel
theorem dL_law__1849 : decode cL_law_ 1849 = .ok (.iadd, 1) := by decide +kernel
theorem dL_law__1850 : decode cL_law_ 1850 = .ok (.iaload, 1) := by decide +kernel
theorem dL_law__1851 : decode cL_law_ 1851 = .ok (.aload_n 0, 1) := by decide +kernel
theorem dL_law__1852 : decode cL_law_ 1852 = .ok (.iload 4, 2) := by decide +kernel
theorem dL_law__1854 : decode cL_law_ 1854 = .ok (.iconst 3, 1) := by decide +kernel
theorem dL_law__1855 : decode cL_law_ 1855 = .ok (.iadd, 1) := by decide +kernel
theorem dL_law__1856 : decode cL_law_ 1856 = .ok (.iaload, 1) := by decide +kernel
theorem dL_law__1857 : decode cL_law_ 1857 = .ok (.invokevirtual 223, 3) := by decide +kernel
theorem dL_law__1860 : decode cL_law_ 1860 = .ok (.istore 6, 2) := by decide +kernel
theorem dL_law__1862 : decode cL_law_ 1862 = .ok (.aload_n 2, 1) := by decide +kernel
theorem dL_law__1863 : decode cL_law_ 1863 = .ok (.invokevirtual 116, 3) := by decide +kernel
theorem dL_law__1866 : decode cL_law_ 1866 = .ok (.iload 5, 2) := by decide +kernel
theorem dL_law__1868 : decode cL_law_ 1868 = .ok (.if_icmp .eq 5, 3) := by decide +kernel
theorem dL_law__1871 : decode cL_law_ 1871 = .ok (.iconst 0, 1) := by decide +kernel
theorem dL_law__1872 : decode cL_law_ 1872 = .ok (.ireturn, 1) := by decide +kernel
theorem dL_law__1873 : decode cL_law_ 1873 = .ok (.iload 5, 2) := by decide +kernel
theorem dL_law__1875 : decode cL_law_ 1875 = .ok (.ifCond .ne 15, 3) := by decide +kernel
theorem dL_law__1878 : decode cL_law_ 1878 = .ok (.aload_n 3, 1) := by decide +kernel
theorem dL_law__1879 : decode cL_law_ 1879 = .ok (.iconst 0, 1) := by decide +kernel
theorem dL_law__1880 : decode cL_law_ 1880 = .ok (.laload, 1) := by decide +kernel
theorem dL_law__1881 : decode cL_law_ 1881 = .ok (.iload 6, 2) := by decide +kernel
theorem dL_law__1883 : decode cL_law_ 1883 = .ok (.i2l, 1) := by decide +kernel
theorem dL_law__1884 : decode cL_law_ 1884 = .ok (.lcmp, 1) := by decide +kernel
theorem dL_law__1885 : decode cL_law_ 1885 = .ok (.ifCond .eq 5, 3) := by decide +kernel
theorem dL_law__1888 : decode cL_law_ 1888 = .ok (.iconst 0, 1) := by decide +kernel
theorem dL_law__1889 : decode cL_law_ 1889 = .ok (.ireturn, 1) := by decide +kernel
theorem dL_law__1890 : decode cL_law_ 1890 = .ok (.goto 357, 3) := by decide +kernel
theorem dL_law__1893 : decode cL_law_ 1893 = .ok (.aload_n 1, 1) := by decide +kernel
theorem dL_law__1894 : decode cL_law_ 1894 = .ok (.aload_n 0, 1) := by decide +kernel
theorem dL_law__1895 : decode cL_law_ 1895 = .ok (.iload 4, 2) := by decide +kernel
theorem dL_law__1897 : decode cL_law_ 1897 = .ok (.iconst 1, 1) := by decide +kernel
theorem dL_law__1898 : decode cL_law_ 1898 = .ok (.iadd, 1) := by decide +kernel
theorem dL_law__1899 : decode cL_law_ 1899 = .ok (.iaload, 1) := by decide +kernel
theorem dL_law__1900 : decode cL_law_ 1900 = .ok (.aload_n 0, 1) := by decide +kernel
theorem dL_law__1901 : decode cL_law_ 1901 = .ok (.iload 4, 2) := by decide +kernel
theorem dL_law__1903 : decode cL_law_ 1903 = .ok (.iconst 2, 1) := by decide +kernel
theorem dL_law__1904 : decode cL_law_ 1904 = .ok (.iadd, 1) := by decide +kernel
theorem dL_law__1905 : decode cL_law_ 1905 = .ok (.iaload, 1) := by decide +kernel
theorem dL_law__1906 : decode cL_law_ 1906 = .ok (.aload_n 3, 1) := by decide +kernel
theorem dL_law__1907 : decode cL_law_ 1907 = .ok (.invokestatic 224, 3) := by decide +kernel
theorem dL_law__1910 : decode cL_law_ 1910 = .ok (.istore 5, 2) := by decide +kernel
theorem dL_law__1912 : decode cL_law_ 1912 = .ok (.aload_n 2, 1) := by decide +kernel
theorem dL_law__1913 : decode cL_law_ 1913 = .ok (.aload_n 0, 1) := by decide +kernel
theorem dL_law__1914 : decode cL_law_ 1914 = .ok (.iload 4, 2) := by decide +kernel
theorem dL_law__1916 : decode cL_law_ 1916 = .ok (.iconst 1, 1) := by decide +kernel
theorem dL_law__1917 : decode cL_law_ 1917 = .ok (.iadd, 1) := by decide +kernel
theorem dL_law__1918 : decode cL_law_ 1918 = .ok (.iaload, 1) := by decide +kernel
theorem dL_law__1919 : decode cL_law_ 1919 = .ok (.aload_n 0, 1) := by decide +kernel
theorem dL_law__1920 : decode cL_law_ 1920 = .ok (.iload 4, 2) := by decide +kernel
theorem dL_law__1922 : decode cL_law_ 1922 = .ok (.iconst 2, 1) := by decide +kernel
theorem dL_law__1923 : decode cL_law_ 1923 = .ok (.iadd, 1) := by decide +kernel
theorem dL_law__1924 : decode cL_law_ 1924 = .ok (.iaload, 1) := by decide +kernel
theorem dL_law__1925 : decode cL_law_ 1925 = .ok (.invokevirtual 226, 3) := by decide +kernel
theorem dL_law__1928 : decode cL_law_ 1928 = .ok (.istore 6, 2) := by decide +kernel
theorem dL_law__1930 : decode cL_law_ 1930 = .ok (.aload_n 2, 1) := by decide +kernel
theorem dL_law__1931 : decode cL_law_ 1931 = .ok (.invokevirtual 116, 3) := by decide +kernel
theorem dL_law__1934 : decode cL_law_ 1934 = .ok (.iload 5, 2) := by decide +kernel
theorem dL_law__1936 : decode cL_law_ 1936 = .ok (.if_icmp .eq 5, 3) := by decide +kernel
theorem dL_law__1939 : decode cL_law_ 1939 = .ok (.iconst 0, 1) := by decide +kernel
theorem dL_law__1940 : decode cL_law_ 1940 = .ok (.ireturn, 1) := by decide +kernel
theorem dL_law__1941 : decode cL_law_ 1941 = .ok (.iload 5, 2) := by decide +kernel
theorem dL_law__1943 : decode cL_law_ 1943 = .ok (.ifCond .ne 15, 3) := by decide +kernel
theorem dL_law__1946 : decode cL_law_ 1946 = .ok (.aload_n 3, 1) := by decide +kernel
theorem dL_law__1947 : decode cL_law_ 1947 = .ok (.iconst 0, 1) := by decide +kernel
theorem dL_law__1948 : decode cL_law_ 1948 = .ok (.laload, 1) := by decide +kernel
theorem dL_law__1949 : decode cL_law_ 1949 = .ok (.iload 6, 2) := by decide +kernel
theorem dL_law__1951 : decode cL_law_ 1951 = .ok (.i2l, 1) := by decide +kernel
theorem dL_law__1952 : decode cL_law_ 1952 = .ok (.lcmp, 1) := by decide +kernel
theorem dL_law__1953 : decode cL_law_ 1953 = .ok (.ifCond .eq 5, 3) := by decide +kernel
theorem dL_law__1956 : decode cL_law_ 1956 = .ok (.iconst 0, 1) := by decide +kernel
theorem dL_law__1957 : decode cL_law_ 1957 = .ok (.ireturn, 1) := by decide +kernel
theorem dL_law__1958 : decode cL_law_ 1958 = .ok (.goto 289, 3) := by decide +kernel
theorem dL_law__1961 : decode cL_law_ 1961 = .ok (.aload_n 1, 1) := by decide +kernel
theorem dL_law__1962 : decode cL_law_ 1962 = .ok (.aload_n 0, 1) := by decide +kernel
theorem dL_law__1963 : decode cL_law_ 1963 = .ok (.iload 4, 2) := by decide +kernel
theorem dL_law__1965 : decode cL_law_ 1965 = .ok (.iconst 1, 1) := by decide +kernel
theorem dL_law__1966 : decode cL_law_ 1966 = .ok (.iadd, 1) := by decide +kernel
theorem dL_law__1967 : decode cL_law_ 1967 = .ok (.iaload, 1) := by decide +kernel
theorem dL_law__1968 : decode cL_law_ 1968 = .ok (.aload_n 0, 1) := by decide +kernel
theorem dL_law__1969 : decode cL_law_ 1969 = .ok (.iload 4, 2) := by decide +kernel
theorem dL_law__1971 : decode cL_law_ 1971 = .ok (.iconst 2, 1) := by decide +kernel
theorem dL_law__1972 : decode cL_law_ 1972 = .ok (.iadd, 1) := by decide +kernel
theorem dL_law__1973 : decode cL_law_ 1973 = .ok (.iaload, 1) := by decide +kernel
theorem dL_law__1974 : decode cL_law_ 1974 = .ok (.aload_n 0, 1) := by decide +kernel
theorem dL_law__1975 : decode cL_law_ 1975 = .ok (.iload 4, 2) := by decide +kernel
theorem dL_law__1977 : decode cL_law_ 1977 = .ok (.iconst 3, 1) := by decide +kernel
theorem dL_law__1978 : decode cL_law_ 1978 = .ok (.iadd, 1) := by decide +kernel
theorem dL_law__1979 : decode cL_law_ 1979 = .ok (.iaload, 1) := by decide +kernel
theorem dL_law__1980 : decode cL_law_ 1980 = .ok (.aload_n 0, 1) := by decide +kernel
theorem dL_law__1981 : decode cL_law_ 1981 = .ok (.iload 4, 2) := by decide +kernel
theorem dL_law__1983 : decode cL_law_ 1983 = .ok (.iconst 4, 1) := by decide +kernel
theorem dL_law__1984 : decode cL_law_ 1984 = .ok (.iadd, 1) := by decide +kernel
theorem dL_law__1985 : decode cL_law_ 1985 = .ok (.iaload, 1) := by decide +kernel
theorem dL_law__1986 : decode cL_law_ 1986 = .ok (.aload_n 3, 1) := by decide +kernel
theorem dL_law__1987 : decode cL_law_ 1987 = .ok (.invokestatic 227, 3) := by decide +kernel
theorem dL_law__1990 : decode cL_law_ 1990 = .ok (.istore 5, 2) := by decide +kernel
theorem dL_law__1992 : decode cL_law_ 1992 = .ok (.aload_n 2, 1) := by decide +kernel
theorem dL_law__1993 : decode cL_law_ 1993 = .ok (.aload_n 0, 1) := by decide +kernel
theorem dL_law__1994 : decode cL_law_ 1994 = .ok (.iload 4, 2) := by decide +kernel
theorem dL_law__1996 : decode cL_law_ 1996 = .ok (.iconst 1, 1) := by decide +kernel
theorem dL_law__1997 : decode cL_law_ 1997 = .ok (.iadd, 1) := by decide +kernel
theorem dL_law__1998 : decode cL_law_ 1998 = .ok (.iaload, 1) := by decide +kernel
theorem dL_law__1999 : decode cL_law_ 1999 = .ok (.aload_n 0, 1) := by decide +kernel
theorem dL_law__2000 : decode cL_law_ 2000 = .ok (.iload 4, 2) := by decide +kernel
