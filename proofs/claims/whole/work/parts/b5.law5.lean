section LAWC
variable {G : z_G} {n0 d rc rs dc dr mc ms : Nat} {K : z_K} {I : z_I} {L : z_L} {Q : z_R} {b Lx : Nat} {xs : Nat → Int32} {i : Nat}
theorem dL_law_1783 : decode cL_law 1783 = .ok (.aload_n 1, 1) := by decide +kernel
theorem dL_law_1784 : decode cL_law 1784 = .ok (.aload_n 0, 1) := by decide +kernel
theorem dL_law_1785 : decode cL_law 1785 = .ok (.iload_n 3, 1) := by decide +kernel
theorem dL_law_1786 : decode cL_law 1786 = .ok (.iconst 1, 1) := by decide +kernel
theorem dL_law_1787 : decode cL_law 1787 = .ok (.iadd, 1) := by decide +kernel
theorem dL_law_1788 : decode cL_law 1788 = .ok (.iaload, 1) := by decide +kernel
theorem dL_law_1789 : decode cL_law 1789 = .ok (.invokevirtual 166, 3) := by decide +kernel
theorem dL_law_1792 : decode cL_law 1792 = .ok (.aload_n 2, 1) := by decide +kernel
theorem dL_law_1793 : decode cL_law 1793 = .ok (.aload_n 0, 1) := by decide +kernel
theorem dL_law_1794 : decode cL_law 1794 = .ok (.iload_n 3, 1) := by decide +kernel
theorem dL_law_1795 : decode cL_law 1795 = .ok (.iconst 1, 1) := by decide +kernel
theorem dL_law_1796 : decode cL_law 1796 = .ok (.iadd, 1) := by decide +kernel
theorem dL_law_1797 : decode cL_law 1797 = .ok (.iaload, 1) := by decide +kernel
theorem dL_law_1798 : decode cL_law 1798 = .ok (.invokevirtual 169, 3) := by decide +kernel
theorem dL_law_1801 : decode cL_law 1801 = .ok (.if_icmp .eq 541, 3) := by decide +kernel
theorem dL_law_1806 : decode cL_law 1806 = .ok (.aload_n 1, 1) := by decide +kernel
theorem dL_law_1807 : decode cL_law 1807 = .ok (.aload_n 0, 1) := by decide +kernel
theorem dL_law_1808 : decode cL_law 1808 = .ok (.iload_n 3, 1) := by decide +kernel
theorem dL_law_1809 : decode cL_law 1809 = .ok (.iconst 1, 1) := by decide +kernel
theorem dL_law_1810 : decode cL_law 1810 = .ok (.iadd, 1) := by decide +kernel
theorem dL_law_1811 : decode cL_law 1811 = .ok (.iaload, 1) := by decide +kernel
theorem dL_law_1812 : decode cL_law 1812 = .ok (.aload_n 0, 1) := by decide +kernel
theorem dL_law_1813 : decode cL_law 1813 = .ok (.iload_n 3, 1) := by decide +kernel
theorem dL_law_1814 : decode cL_law 1814 = .ok (.iconst 2, 1) := by decide +kernel
theorem dL_law_1815 : decode cL_law 1815 = .ok (.iadd, 1) := by decide +kernel
theorem dL_law_1816 : decode cL_law 1816 = .ok (.iaload, 1) := by decide +kernel
theorem dL_law_1817 : decode cL_law 1817 = .ok (.invokevirtual 170, 3) := by decide +kernel
theorem dL_law_1820 : decode cL_law 1820 = .ok (.aload_n 2, 1) := by decide +kernel
theorem dL_law_1821 : decode cL_law 1821 = .ok (.aload_n 0, 1) := by decide +kernel
theorem dL_law_1822 : decode cL_law 1822 = .ok (.iload_n 3, 1) := by decide +kernel
theorem dL_law_1823 : decode cL_law 1823 = .ok (.iconst 1, 1) := by decide +kernel
theorem dL_law_1824 : decode cL_law 1824 = .ok (.iadd, 1) := by decide +kernel
theorem dL_law_1825 : decode cL_law 1825 = .ok (.iaload, 1) := by decide +kernel
theorem dL_law_1826 : decode cL_law 1826 = .ok (.aload_n 0, 1) := by decide +kernel
theorem dL_law_1827 : decode cL_law 1827 = .ok (.iload_n 3, 1) := by decide +kernel
theorem dL_law_1828 : decode cL_law 1828 = .ok (.iconst 2, 1) := by decide +kernel
theorem dL_law_1829 : decode cL_law 1829 = .ok (.iadd, 1) := by decide +kernel
theorem dL_law_1830 : decode cL_law 1830 = .ok (.iaload, 1) := by decide +kernel
theorem dL_law_1831 : decode cL_law 1831 = .ok (.invokevirtual 173, 3) := by decide +kernel
theorem dL_law_1834 : decode cL_law 1834 = .ok (.if_icmp .eq 508, 3) := by decide +kernel
theorem dL_law_1839 : decode cL_law 1839 = .ok (.aload_n 1, 1) := by decide +kernel
theorem dL_law_1840 : decode cL_law 1840 = .ok (.aload_n 0, 1) := by decide +kernel
theorem dL_law_1841 : decode cL_law 1841 = .ok (.iload_n 3, 1) := by decide +kernel
theorem dL_law_1842 : decode cL_law 1842 = .ok (.iconst 1, 1) := by decide +kernel
theorem dL_law_1843 : decode cL_law 1843 = .ok (.iadd, 1) := by decide +kernel
theorem dL_law_1844 : decode cL_law 1844 = .ok (.iaload, 1) := by decide +kernel
theorem dL_law_1845 : decode cL_law 1845 = .ok (.invokevirtual 174, 3) := by decide +kernel
theorem dL_law_1848 : decode cL_law 1848 = .ok (.aload_n 2, 1) := by decide +kernel
theorem dL_law_1849 : decode cL_law 1849 = .ok (.aload_n 0, 1) := by decide +kernel
theorem dL_law_1850 : decode cL_law 1850 = .ok (.iload_n 3, 1) := by decide +kernel
theorem dL_law_1851 : decode cL_law 1851 = .ok (.iconst 1, 1) := by decide +kernel
theorem dL_law_1852 : decode cL_law 1852 = .ok (.iadd, 1) := by decide +kernel
theorem dL_law_1853 : decode cL_law 1853 = .ok (.iaload, 1) := by decide +kernel
theorem dL_law_1854 : decode cL_law 1854 = .ok (.invokevirtual 177, 3) := by decide +kernel
theorem dL_law_1857 : decode cL_law 1857 = .ok (.if_icmp .eq 485, 3) := by decide +kernel
theorem dL_law_1862 : decode cL_law 1862 = .ok (.aload_n 1, 1) := by decide +kernel
theorem dL_law_1863 : decode cL_law 1863 = .ok (.invokevirtual 178, 3) := by decide +kernel
theorem dL_law_1866 : decode cL_law 1866 = .ok (.aload_n 2, 1) := by decide +kernel
theorem dL_law_1867 : decode cL_law 1867 = .ok (.invokevirtual 181, 3) := by decide +kernel
theorem dL_law_1870 : decode cL_law 1870 = .ok (.if_icmp .eq 472, 3) := by decide +kernel
theorem dL_law_1875 : decode cL_law 1875 = .ok (.aload_n 1, 1) := by decide +kernel
theorem dL_law_1876 : decode cL_law 1876 = .ok (.aload_n 0, 1) := by decide +kernel
theorem dL_law_1877 : decode cL_law 1877 = .ok (.iload_n 3, 1) := by decide +kernel
theorem dL_law_1878 : decode cL_law 1878 = .ok (.iconst 1, 1) := by decide +kernel
theorem dL_law_1879 : decode cL_law 1879 = .ok (.iadd, 1) := by decide +kernel
theorem dL_law_1880 : decode cL_law 1880 = .ok (.iaload, 1) := by decide +kernel
theorem dL_law_1881 : decode cL_law 1881 = .ok (.aload_n 0, 1) := by decide +kernel
theorem dL_law_1882 : decode cL_law 1882 = .ok (.iload_n 3, 1) := by decide +kernel
theorem dL_law_1883 : decode cL_law 1883 = .ok (.iconst 2, 1) := by decide +kernel
theorem dL_law_1884 : decode cL_law 1884 = .ok (.iadd, 1) := by decide +kernel
theorem dL_law_1885 : decode cL_law 1885 = .ok (.iaload, 1) := by decide +kernel
theorem dL_law_1886 : decode cL_law 1886 = .ok (.aload_n 0, 1) := by decide +kernel
theorem dL_law_1887 : decode cL_law 1887 = .ok (.iload_n 3, 1) := by decide +kernel
theorem dL_law_1888 : decode cL_law 1888 = .ok (.iconst 3, 1) := by decide +kernel
theorem dL_law_1889 : decode cL_law 1889 = .ok (.iadd, 1) := by decide +kernel
theorem dL_law_1890 : decode cL_law 1890 = .ok (.iaload, 1) := by decide +kernel
theorem dL_law_1891 : decode cL_law 1891 = .ok (.ifCond .eq 7, 3) := by decide +kernel
theorem dL_law_1894 : decode cL_law 1894 = .ok (.iconst 1, 1) := by decide +kernel
theorem dL_law_1895 : decode cL_law 1895 = .ok (.goto 4, 3) := by decide +kernel
theorem dL_law_1898 : decode cL_law 1898 = .ok (.iconst 0, 1) := by decide +kernel
theorem dL_law_1899 : decode cL_law 1899 = .ok (.invokevirtual 182, 3) := by decide +kernel
theorem dL_law_1902 : decode cL_law 1902 = .ok (.aload_n 2, 1) := by decide +kernel
theorem dL_law_1903 : decode cL_law 1903 = .ok (.aload_n 0, 1) := by decide +kernel
theorem dL_law_1904 : decode cL_law 1904 = .ok (.iload_n 3, 1) := by decide +kernel
theorem dL_law_1905 : decode cL_law 1905 = .ok (.iconst 1, 1) := by decide +kernel
theorem dL_law_1906 : decode cL_law 1906 = .ok (.iadd, 1) := by decide +kernel
theorem dL_law_1907 : decode cL_law 1907 = .ok (.iaload, 1) := by decide +kernel
theorem dL_law_1908 : decode cL_law 1908 = .ok (.aload_n 0, 1) := by decide +kernel
theorem dL_law_1909 : decode cL_law 1909 = .ok (.iload_n 3, 1) := by decide +kernel
theorem dL_law_1910 : decode cL_law 1910 = .ok (.iconst 2, 1) := by decide +kernel
theorem dL_law_1911 : decode cL_law 1911 = .ok (.iadd, 1) := by decide +kernel
theorem dL_law_1912 : decode cL_law 1912 = .ok (.iaload, 1) := by decide +kernel
theorem dL_law_1913 : decode cL_law 1913 = .ok (.aload_n 0, 1) := by decide +kernel
theorem dL_law_1914 : decode cL_law 1914 = .ok (.iload_n 3, 1) := by decide +kernel
theorem dL_law_1915 : decode cL_law 1915 = .ok (.iconst 3, 1) := by decide +kernel
theorem dL_law_1916 : decode cL_law 1916 = .ok (.iadd, 1) := by decide +kernel
theorem dL_law_1917 : decode cL_law 1917 = .ok (.iaload, 1) := by decide +kernel
theorem dL_law_1918 : decode cL_law 1918 = .ok (.ifCond .eq 7, 3) := by decide +kernel
theorem dL_law_1921 : decode cL_law 1921 = .ok (.iconst 1, 1) := by decide +kernel
theorem dL_law_1922 : decode cL_law 1922 = .ok (.goto 4, 3) := by decide +kernel
theorem dL_law_1925 : decode cL_law 1925 = .ok (.iconst 0, 1) := by decide +kernel
theorem dL_law_1926 : decode cL_law 1926 = .ok (.invokevirtual 186, 3) := by decide +kernel
theorem dL_law_1929 : decode cL_law 1929 = .ok (.if_icmp .eq 413, 3) := by decide +kernel
theorem dL_law_1934 : decode cL_law 1934 = .ok (.aload_n 1, 1) := by decide +kernel
theorem dL_law_1935 : decode cL_law 1935 = .ok (.aload_n 0, 1) := by decide +kernel
theorem dL_law_1936 : decode cL_law 1936 = .ok (.iload_n 3, 1) := by decide +kernel
theorem dL_law_1937 : decode cL_law 1937 = .ok (.iconst 1, 1) := by decide +kernel
theorem dL_law_1938 : decode cL_law 1938 = .ok (.iadd, 1) := by decide +kernel
theorem dL_law_1939 : decode cL_law 1939 = .ok (.iaload, 1) := by decide +kernel
theorem dL_law_1940 : decode cL_law 1940 = .ok (.aload_n 0, 1) := by decide +kernel
theorem dL_law_1941 : decode cL_law 1941 = .ok (.iload_n 3, 1) := by decide +kernel
theorem dL_law_1942 : decode cL_law 1942 = .ok (.iconst 2, 1) := by decide +kernel
theorem dL_law_1943 : decode cL_law 1943 = .ok (.iadd, 1) := by decide +kernel
theorem dL_law_1944 : decode cL_law 1944 = .ok (.iaload, 1) := by decide +kernel
theorem dL_law_1945 : decode cL_law 1945 = .ok (.aload_n 0, 1) := by decide +kernel
theorem dL_law_1946 : decode cL_law 1946 = .ok (.iload_n 3, 1) := by decide +kernel
theorem dL_law_1947 : decode cL_law 1947 = .ok (.iconst 3, 1) := by decide +kernel
theorem dL_law_1948 : decode cL_law 1948 = .ok (.iadd, 1) := by decide +kernel
theorem dL_law_1949 : decode cL_law 1949 = .ok (.iaload, 1) := by decide +kernel
theorem dL_law_1950 : decode cL_law 1950 = .ok (.aload_n 0, 1) := by decide +kernel
theorem dL_law_1951 : decode cL_law 1951 = .ok (.iload_n 3, 1) := by decide +kernel
theorem dL_law_1952 : decode cL_law 1952 = .ok (.iconst 4, 1) := by decide +kernel
theorem dL_law_1953 : decode cL_law 1953 = .ok (.iadd, 1) := by decide +kernel
theorem dL_law_1954 : decode cL_law 1954 = .ok (.iaload, 1) := by decide +kernel
theorem dL_law_1955 : decode cL_law 1955 = .ok (.aload_n 0, 1) := by decide +kernel
theorem dL_law_1956 : decode cL_law 1956 = .ok (.iload_n 3, 1) := by decide +kernel
theorem dL_law_1957 : decode cL_law 1957 = .ok (.iconst 5, 1) := by decide +kernel
theorem dL_law_1958 : decode cL_law 1958 = .ok (.iadd, 1) := by decide +kernel
theorem dL_law_1959 : decode cL_law 1959 = .ok (.iaload, 1) := by decide +kernel
theorem dL_law_1960 : decode cL_law 1960 = .ok (.aload_n 0, 1) := by decide +kernel
theorem dL_law_1961 : decode cL_law 1961 = .ok (.iload_n 3, 1) := by decide +kernel
theorem dL_law_1962 : decode cL_law 1962 = .ok (.bipush 6, 2) := by decide +kernel
theorem dL_law_1964 : decode cL_law 1964 = .ok (.iadd, 1) := by decide +kernel
theorem dL_law_1965 : decode cL_law 1965 = .ok (.iaload, 1) := by decide +kernel
theorem dL_law_1966 : decode cL_law 1966 = .ok (.invokevirtual 187, 3) := by decide +kernel
theorem dL_law_1969 : decode cL_law 1969 = .ok (.aload_n 2, 1) := by decide +kernel
theorem dL_law_1970 : decode cL_law 1970 = .ok (.aload_n 0, 1) := by decide +kernel
theorem dL_law_1971 : decode cL_law 1971 = .ok (.iload_n 3, 1) := by decide +kernel
theorem dL_law_1972 : decode cL_law 1972 = .ok (.iconst 1, 1) := by decide +kernel
theorem dL_law_1973 : decode cL_law 1973 = .ok (.iadd, 1) := by decide +kernel
theorem dL_law_1974 : decode cL_law 1974 = .ok (.iaload, 1) := by decide +kernel
theorem dL_law_1975 : decode cL_law 1975 = .ok (.aload_n 0, 1) := by decide +kernel
theorem dL_law_1976 : decode cL_law 1976 = .ok (.iload_n 3, 1) := by decide +kernel
theorem dL_law_1977 : decode cL_law 1977 = .ok (.iconst 2, 1) := by decide +kernel
theorem dL_law_1978 : decode cL_law 1978 = .ok (.iadd, 1) := by decide +kernel
theorem dL_law_1979 : decode cL_law 1979 = .ok (.iaload, 1) := by decide +kernel
theorem dL_law_1980 : decode cL_law 1980 = .ok (.aload_n 0, 1) := by decide +kernel
theorem dL_law_1981 : decode cL_law 1981 = .ok (.iload_n 3, 1) := by decide +kernel
theorem dL_law_1982 : decode cL_law 1982 = .ok (.iconst 3, 1) := by decide +kernel
theorem dL_law_1983 : decode cL_law 1983 = .ok (.iadd, 1) := by decide +kernel
theorem dL_law_1984 : decode cL_law 1984 = .ok (.iaload, 1) := by decide +kernel
theorem dL_law_1985 : decode cL_law 1985 = .ok (.aload_n 0, 1) := by decide +kernel
theorem dL_law_1986 : decode cL_law 1986 = .ok (.iload_n 3, 1) := by decide +kernel
theorem dL_law_1987 : decode cL_law 1987 = .ok (.iconst 4, 1) := by decide +kernel
theorem dL_law_1988 : decode cL_law 1988 = .ok (.iadd, 1) := by decide +kernel
theorem dL_law_1989 : decode cL_law 1989 = .ok (.iaload, 1) := by decide +kernel
theorem dL_law_1990 : decode cL_law 1990 = .ok (.aload_n 0, 1) := by decide +kernel
theorem dL_law_1991 : decode cL_law 1991 = .ok (.iload_n 3, 1) := by decide +kernel
theorem dL_law_1992 : decode cL_law 1992 = .ok (.iconst 5, 1) := by decide +kernel
theorem dL_law_1993 : decode cL_law 1993 = .ok (.iadd, 1) := by decide +kernel
theorem dL_law_1994 : decode cL_law 1994 = .ok (.iaload, 1) := by decide +kernel
theorem dL_law_1995 : decode cL_law 1995 = .ok (.aload_n 0, 1) := by decide +kernel
theorem dL_law_1996 : decode cL_law 1996 = .ok (.iload_n 3, 1) := by decide +kernel
theorem dL_law_1997 : decode cL_law 1997 = .ok (.bipush 6, 2) := by decide +kernel
theorem dL_law_1999 : decode cL_law 1999 = .ok (.iadd, 1) := by decide +kernel
theorem dL_law_2000 : decode cL_law 2000 = .ok (.iaload, 1) := by decide +kernel
theorem dL_law_2001 : decode cL_law 2001 = .ok (.invokevirtual 191, 3) := by decide +kernel
theorem dL_law_2004 : decode cL_law 2004 = .ok (.if_icmp .eq 338, 3) := by decide +kernel
theorem dL_law_2009 : decode cL_law 2009 = .ok (.aload_n 1, 1) := by decide +kernel
theorem dL_law_2010 : decode cL_law 2010 = .ok (.aload_n 0, 1) := by decide +kernel
theorem dL_law_2011 : decode cL_law 2011 = .ok (.iload_n 3, 1) := by decide +kernel
theorem dL_law_2012 : decode cL_law 2012 = .ok (.iconst 1, 1) := by decide +kernel
theorem dL_law_2013 : decode cL_law 2013 = .ok (.iadd, 1) := by decide +kernel
theorem dL_law_2014 : decode cL_law 2014 = .ok (.iaload, 1) := by decide +kernel
theorem dL_law_2015 : decode cL_law 2015 = .ok (.aload_n 0, 1) := by decide +kernel
theorem dL_law_2016 : decode cL_law 2016 = .ok (.iload_n 3, 1) := by decide +kernel
theorem dL_law_2017 : decode cL_law 2017 = .ok (.iconst 2, 1) := by decide +kernel
theorem dL_law_2018 : decode cL_law 2018 = .ok (.iadd, 1) := by decide +kernel
theorem dL_law_2019 : decode cL_law 2019 = .ok (.iaload, 1) := by decide +kernel
theorem dL_law_2020 : decode cL_law 2020 = .ok (.aload_n 0, 1) := by decide +kernel
theorem dL_law_2021 : decode cL_law 2021 = .ok (.iload_n 3, 1) := by decide +kernel
theorem dL_law_2022 : decode cL_law 2022 = .ok (.iconst 3, 1) := by decide +kernel
theorem dL_law_2023 : decode cL_law 2023 = .ok (.iadd, 1) := by decide +kernel
theorem dL_law_2024 : decode cL_law 2024 = .ok (.iaload, 1) := by decide +kernel
theorem dL_law_2025 : decode cL_law 2025 = .ok (.aload_n 0, 1) := by decide +kernel
theorem dL_law_2026 : decode cL_law 2026 = .ok (.iload_n 3, 1) := by decide +kernel
theorem dL_law_2027 : decode cL_law 2027 = .ok (.iconst 4, 1) := by decide +kernel
theorem dL_law_2028 : decode cL_law 2028 = .ok (.iadd, 1) := by decide +kernel
theorem dL_law_2029 : decode cL_law 2029 = .ok (.iaload, 1) := by decide +kernel
theorem dL_law_2030 : decode cL_law 2030 = .ok (.aload_n 0, 1) := by decide +kernel
theorem dL_law_2031 : decode cL_law 2031 = .ok (.iload_n 3, 1) := by decide +kernel
theorem dL_law_2032 : decode cL_law 2032 = .ok (.iconst 5, 1) := by decide +kernel
theorem dL_law_2033 : decode cL_law 2033 = .ok (.iadd, 1) := by decide +kernel
theorem dL_law_2034 : decode cL_law 2034 = .ok (.iaload, 1) := by decide +kernel
theorem dL_law_2035 : decode cL_law 2035 = .ok (.invokevirtual 192, 3) := by decide +kernel
theorem dL_law_2038 : decode cL_law 2038 = .ok (.aload_n 2, 1) := by decide +kernel
theorem dL_law_2039 : decode cL_law 2039 = .ok (.aload_n 0, 1) := by decide +kernel
theorem dL_law_2040 : decode cL_law 2040 = .ok (.iload_n 3, 1) := by decide +kernel
theorem dL_law_2041 : decode cL_law 2041 = .ok (.iconst 1, 1) := by decide +kernel
theorem dL_law_2042 : decode cL_law 2042 = .ok (.iadd, 1) := by decide +kernel
theorem dL_law_2043 : decode cL_law 2043 = .ok (.iaload, 1) := by decide +kernel
theorem dL_law_2044 : decode cL_law 2044 = .ok (.aload_n 0, 1) := by decide +kernel
theorem dL_law_2045 : decode cL_law 2045 = .ok (.iload_n 3, 1) := by decide +kernel
theorem dL_law_2046 : decode cL_law 2046 = .ok (.iconst 2, 1) := by decide +kernel
theorem dL_law_2047 : decode cL_law 2047 = .ok (.iadd, 1) := by decide +kernel
theorem dL_law_2048 : decode cL_law 2048 = .ok (.iaload, 1) := by decide +kernel
theorem dL_law_2049 : decode cL_law 2049 = .ok (.aload_n 0, 1) := by decide +kernel
theorem dL_law_2050 : decode cL_law 2050 = .ok (.iload_n 3, 1) := by decide +kernel
theorem dL_law_2051 : decode cL_law 2051 = .ok (.iconst 3, 1) := by decide +kernel
theorem dL_law_2052 : decode cL_law 2052 = .ok (.iadd, 1) := by decide +kernel
theorem dL_law_2053 : decode cL_law 2053 = .ok (.iaload, 1) := by decide +kernel
theorem dL_law_2054 : decode cL_law 2054 = .ok (.aload_n 0, 1) := by decide +kernel
theorem dL_law_2055 : decode cL_law 2055 = .ok (.iload_n 3, 1) := by decide +kernel
theorem dL_law_2056 : decode cL_law 2056 = .ok (.iconst 4, 1) := by decide +kernel
theorem dL_law_2057 : decode cL_law 2057 = .ok (.iadd, 1) := by decide +kernel
theorem dL_law_2058 : decode cL_law 2058 = .ok (.iaload, 1) := by decide +kernel
theorem dL_law_2059 : decode cL_law 2059 = .ok (.aload_n 0, 1) := by decide +kernel
theorem dL_law_2060 : decode cL_law 2060 = .ok (.iload_n 3, 1) := by decide +kernel
theorem dL_law_2061 : decode cL_law 2061 = .ok (.iconst 5, 1) := by decide +kernel
theorem dL_law_2062 : decode cL_law 2062 = .ok (.iadd, 1) := by decide +kernel
theorem dL_law_2063 : decode cL_law 2063 = .ok (.iaload, 1) := by decide +kernel
theorem dL_law_2064 : decode cL_law 2064 = .ok (.invokevirtual 195, 3) := by decide +kernel
theorem dL_law_2067 : decode cL_law 2067 = .ok (.if_icmp .eq 275, 3) := by decide +kernel
theorem lw_shortest (hG : G.2.2.2 3 = (b, Lx, xs)) (hi : i + 9 ≤ Lx) (hLx : Lx ≤ 4608) (h0 : 0 < K.1) (h12 : (K.2.1 0).1 = 12) (hdc : dc + 1 ≤ d) (hdr : dr + 1 ≤ d)
    (hop : OpA n0 xX12_shortest xX13_shortest dc dr mc ms [.int (xs (i + 1))] K I L (fun K' I' L' => ZG G n0 xL_law d rc rs 18 [(0, .ref b), (1, .ref (n0 + 0)), (2, .ref (n0 + 59)), (3, .int (nI (i + 9)))] [] K' I' L' Q)) :
    ZH G n0 xL_law d (rc + mc) (rs + ms) 1783 [(0, .ref b), (1, .ref (n0 + 0)), (2, .ref (n0 + 59)), (3, .int (nI i))] [] K I L Q := by
  refine yh_aload_n 1 dL_law_1783 rfl ?_
  refine yh_aload_n 0 dL_law_1784 rfl ?_
  refine yh_iload_n 3 dL_law_1785 rfl ?_
  refine yh_iconst 1 dL_law_1786 (by decide) ?_
  refine yh_iadd dL_law_1787 ?_
  refine yh_sld hG dL_law_1788 (law_ix (c := 1) (j := 1) rfl hi hLx (by omega)) ?_
  rw [law_cl (c := 1) (j := 1) rfl hi hLx (by omega)]
  refine yh_callV (rc := rc) (rs := rs) (mc1 := mc) (ms1 := ms) (k := 0) (c := 12) (As := [.int (xs (i + 1))]) dL_law_1789 hy_X12_shortest h0 h12 (by decide) wg_1144 wg_1145 wg_1146 hdc (Nat.le_of_ble_eq_true rfl) (RM.mono hop ?_)
  clear hop
  rintro vv K1 I1 L1 ⟨r, rfl, hop⟩
  change ZH G n0 xL_law d rc rs _ _ [.int r] K1 I1 L1 Q
  refine yh_aload_n 2 dL_law_1792 rfl ?_
  refine yh_aload_n 0 dL_law_1793 rfl ?_
  refine yh_iload_n 3 dL_law_1794 rfl ?_
  refine yh_iconst 1 dL_law_1795 (by decide) ?_
  refine yh_iadd dL_law_1796 ?_
  refine yh_sld hG dL_law_1797 (law_ix (c := 1) (j := 1) rfl hi hLx (by omega)) ?_
  rw [law_cl (c := 1) (j := 1) rfl hi hLx (by omega)]
  refine yh_callM (As := [.int (xs (i + 1))]) (st := [.int r]) dL_law_1798 hy_X13_shortest wg_2106 wg_2107 wg_2108 hdr (Nat.le_of_ble_eq_true rfl) (RM0.mono hop ?_)
  clear hop
  rintro vv I2 L2 ⟨rfl, hP⟩
  change ZH G n0 xL_law d rc rs _ _ [.int r, .int r] K1 I2 L2 Q
  refine yh_icmp_eq 2342 dL_law_1801 (by decide) (fun _ => ?_) (fun z => absurd rfl z)
  refine yh_iinc (j := 3) (nI (i + 9)) [1, 2, 3, 0] [(0, .ref b), (1, .ref (n0 + 0)), (2, .ref (n0 + 59)), (3, .int (nI (i + 9)))] dL_law_2342 rfl q_nadd (Nat.le_of_ble_eq_true rfl) rfl ?_
  refine yh_goto 18 dL_law_2345 (by decide) ?_
  exact ZH.ofG hP
theorem lw_place (hG : G.2.2.2 3 = (b, Lx, xs)) (hi : i + 9 ≤ Lx) (hLx : Lx ≤ 4608) (h0 : 0 < K.1) (h12 : (K.2.1 0).1 = 12) (hdc : dc + 1 ≤ d) (hdr : dr + 1 ≤ d)
    (hop : OpA n0 xX12_place xX13_place dc dr mc ms [.int (xs (i + 1)), .int (xs (i + 2))] K I L (fun K' I' L' => ZG G n0 xL_law d rc rs 18 [(0, .ref b), (1, .ref (n0 + 0)), (2, .ref (n0 + 59)), (3, .int (nI (i + 9)))] [] K' I' L' Q)) :
    ZH G n0 xL_law d (rc + mc) (rs + ms) 1806 [(0, .ref b), (1, .ref (n0 + 0)), (2, .ref (n0 + 59)), (3, .int (nI i))] [] K I L Q := by
  refine yh_aload_n 1 dL_law_1806 rfl ?_
  refine yh_aload_n 0 dL_law_1807 rfl ?_
  refine yh_iload_n 3 dL_law_1808 rfl ?_
  refine yh_iconst 1 dL_law_1809 (by decide) ?_
  refine yh_iadd dL_law_1810 ?_
  refine yh_sld hG dL_law_1811 (law_ix (c := 1) (j := 1) rfl hi hLx (by omega)) ?_
  rw [law_cl (c := 1) (j := 1) rfl hi hLx (by omega)]
  refine yh_aload_n 0 dL_law_1812 rfl ?_
  refine yh_iload_n 3 dL_law_1813 rfl ?_
  refine yh_iconst 2 dL_law_1814 (by decide) ?_
  refine yh_iadd dL_law_1815 ?_
  refine yh_sld hG dL_law_1816 (law_ix (c := 2) (j := 2) rfl hi hLx (by omega)) ?_
  rw [law_cl (c := 2) (j := 2) rfl hi hLx (by omega)]
  refine yh_callV (rc := rc) (rs := rs) (mc1 := mc) (ms1 := ms) (k := 0) (c := 12) (As := [.int (xs (i + 1)), .int (xs (i + 2))]) dL_law_1817 hy_X12_place h0 h12 (by decide) wg_1190 wg_1191 wg_1192 hdc (Nat.le_of_ble_eq_true rfl) (RM.mono hop ?_)
  clear hop
  rintro vv K1 I1 L1 ⟨r, rfl, hop⟩
  change ZH G n0 xL_law d rc rs _ _ [.int r] K1 I1 L1 Q
  refine yh_aload_n 2 dL_law_1820 rfl ?_
  refine yh_aload_n 0 dL_law_1821 rfl ?_
  refine yh_iload_n 3 dL_law_1822 rfl ?_
  refine yh_iconst 1 dL_law_1823 (by decide) ?_
  refine yh_iadd dL_law_1824 ?_
  refine yh_sld hG dL_law_1825 (law_ix (c := 1) (j := 1) rfl hi hLx (by omega)) ?_
  rw [law_cl (c := 1) (j := 1) rfl hi hLx (by omega)]
  refine yh_aload_n 0 dL_law_1826 rfl ?_
  refine yh_iload_n 3 dL_law_1827 rfl ?_
  refine yh_iconst 2 dL_law_1828 (by decide) ?_
  refine yh_iadd dL_law_1829 ?_
  refine yh_sld hG dL_law_1830 (law_ix (c := 2) (j := 2) rfl hi hLx (by omega)) ?_
  rw [law_cl (c := 2) (j := 2) rfl hi hLx (by omega)]
  refine yh_callM (As := [.int (xs (i + 1)), .int (xs (i + 2))]) (st := [.int r]) dL_law_1831 hy_X13_place wg_2156 wg_2157 wg_2158 hdr (Nat.le_of_ble_eq_true rfl) (RM0.mono hop ?_)
  clear hop
  rintro vv I2 L2 ⟨rfl, hP⟩
  change ZH G n0 xL_law d rc rs _ _ [.int r, .int r] K1 I2 L2 Q
  refine yh_icmp_eq 2342 dL_law_1834 (by decide) (fun _ => ?_) (fun z => absurd rfl z)
  refine yh_iinc (j := 3) (nI (i + 9)) [1, 2, 3, 0] [(0, .ref b), (1, .ref (n0 + 0)), (2, .ref (n0 + 59)), (3, .int (nI (i + 9)))] dL_law_2342 rfl q_nadd (Nat.le_of_ble_eq_true rfl) rfl ?_
  refine yh_goto 18 dL_law_2345 (by decide) ?_
  exact ZH.ofG hP
theorem lw_put (hG : G.2.2.2 3 = (b, Lx, xs)) (hi : i + 9 ≤ Lx) (hLx : Lx ≤ 4608) (h0 : 0 < K.1) (h12 : (K.2.1 0).1 = 12) (hdc : dc + 1 ≤ d) (hdr : dr + 1 ≤ d)
    (hop : OpA n0 xX12_put xX13_put dc dr mc ms [.int (xs (i + 1))] K I L (fun K' I' L' => ZG G n0 xL_law d rc rs 18 [(0, .ref b), (1, .ref (n0 + 0)), (2, .ref (n0 + 59)), (3, .int (nI (i + 9)))] [] K' I' L' Q)) :
    ZH G n0 xL_law d (rc + mc) (rs + ms) 1839 [(0, .ref b), (1, .ref (n0 + 0)), (2, .ref (n0 + 59)), (3, .int (nI i))] [] K I L Q := by
  refine yh_aload_n 1 dL_law_1839 rfl ?_
  refine yh_aload_n 0 dL_law_1840 rfl ?_
  refine yh_iload_n 3 dL_law_1841 rfl ?_
  refine yh_iconst 1 dL_law_1842 (by decide) ?_
  refine yh_iadd dL_law_1843 ?_
  refine yh_sld hG dL_law_1844 (law_ix (c := 1) (j := 1) rfl hi hLx (by omega)) ?_
  rw [law_cl (c := 1) (j := 1) rfl hi hLx (by omega)]
  refine yh_callV (rc := rc) (rs := rs) (mc1 := mc) (ms1 := ms) (k := 0) (c := 12) (As := [.int (xs (i + 1))]) dL_law_1845 hy_X12_put h0 h12 (by decide) wg_1194 wg_1195 wg_1196 hdc (Nat.le_of_ble_eq_true rfl) (RM.mono hop ?_)
  clear hop
  rintro vv K1 I1 L1 ⟨r, rfl, hop⟩
  change ZH G n0 xL_law d rc rs _ _ [.int r] K1 I1 L1 Q
  refine yh_aload_n 2 dL_law_1848 rfl ?_
  refine yh_aload_n 0 dL_law_1849 rfl ?_
  refine yh_iload_n 3 dL_law_1850 rfl ?_
  refine yh_iconst 1 dL_law_1851 (by decide) ?_
  refine yh_iadd dL_law_1852 ?_
  refine yh_sld hG dL_law_1853 (law_ix (c := 1) (j := 1) rfl hi hLx (by omega)) ?_
  rw [law_cl (c := 1) (j := 1) rfl hi hLx (by omega)]
  refine yh_callM (As := [.int (xs (i + 1))]) (st := [.int r]) dL_law_1854 hy_X13_put wg_2160 wg_2161 wg_2162 hdr (Nat.le_of_ble_eq_true rfl) (RM0.mono hop ?_)
  clear hop
  rintro vv I2 L2 ⟨rfl, hP⟩
  change ZH G n0 xL_law d rc rs _ _ [.int r, .int r] K1 I2 L2 Q
  refine yh_icmp_eq 2342 dL_law_1857 (by decide) (fun _ => ?_) (fun z => absurd rfl z)
  refine yh_iinc (j := 3) (nI (i + 9)) [1, 2, 3, 0] [(0, .ref b), (1, .ref (n0 + 0)), (2, .ref (n0 + 59)), (3, .int (nI (i + 9)))] dL_law_2342 rfl q_nadd (Nat.le_of_ble_eq_true rfl) rfl ?_
  refine yh_goto 18 dL_law_2345 (by decide) ?_
  exact ZH.ofG hP
theorem lw_judge (hG : G.2.2.2 3 = (b, Lx, xs)) (hi : i + 9 ≤ Lx) (hLx : Lx ≤ 4608) (h0 : 0 < K.1) (h12 : (K.2.1 0).1 = 12) (hdc : dc + 1 ≤ d) (hdr : dr + 1 ≤ d)
    (hop : OpA n0 xX12_judge xX13_judge dc dr mc ms [] K I L (fun K' I' L' => ZG G n0 xL_law d rc rs 18 [(0, .ref b), (1, .ref (n0 + 0)), (2, .ref (n0 + 59)), (3, .int (nI (i + 9)))] [] K' I' L' Q)) :
    ZH G n0 xL_law d (rc + mc) (rs + ms) 1862 [(0, .ref b), (1, .ref (n0 + 0)), (2, .ref (n0 + 59)), (3, .int (nI i))] [] K I L Q := by
  refine yh_aload_n 1 dL_law_1862 rfl ?_
  refine yh_callV (rc := rc) (rs := rs) (mc1 := mc) (ms1 := ms) (k := 0) (c := 12) (As := []) dL_law_1863 hy_X12_judge h0 h12 (by decide) wg_1198 wg_1199 wg_1200 hdc (Nat.le_of_ble_eq_true rfl) (RM.mono hop ?_)
  clear hop
  rintro vv K1 I1 L1 ⟨r, rfl, hop⟩
  change ZH G n0 xL_law d rc rs _ _ [.int r] K1 I1 L1 Q
  refine yh_aload_n 2 dL_law_1866 rfl ?_
  refine yh_callM (As := []) (st := [.int r]) dL_law_1867 hy_X13_judge wg_2164 wg_2165 wg_2166 hdr (Nat.le_of_ble_eq_true rfl) (RM0.mono hop ?_)
  clear hop
  rintro vv I2 L2 ⟨rfl, hP⟩
  change ZH G n0 xL_law d rc rs _ _ [.int r, .int r] K1 I2 L2 Q
  refine yh_icmp_eq 2342 dL_law_1870 (by decide) (fun _ => ?_) (fun z => absurd rfl z)
  refine yh_iinc (j := 3) (nI (i + 9)) [1, 2, 3, 0] [(0, .ref b), (1, .ref (n0 + 0)), (2, .ref (n0 + 59)), (3, .int (nI (i + 9)))] dL_law_2342 rfl q_nadd (Nat.le_of_ble_eq_true rfl) rfl ?_
  refine yh_goto 18 dL_law_2345 (by decide) ?_
  exact ZH.ofG hP
theorem lw_cut (hG : G.2.2.2 3 = (b, Lx, xs)) (hi : i + 9 ≤ Lx) (hLx : Lx ≤ 4608) (h0 : 0 < K.1) (h12 : (K.2.1 0).1 = 12) (hdc : dc + 1 ≤ d) (hdr : dr + 1 ≤ d)
    (hop : OpA n0 xX12_cut xX13_cut dc dr mc ms [.int (xs (i + 1)), .int (xs (i + 2)), .int (if xs (i + 3) = 0 then 0 else 1)] K I L (fun K' I' L' => ZG G n0 xL_law d rc rs 18 [(0, .ref b), (1, .ref (n0 + 0)), (2, .ref (n0 + 59)), (3, .int (nI (i + 9)))] [] K' I' L' Q)) :
    ZH G n0 xL_law d (rc + mc) (rs + ms) 1875 [(0, .ref b), (1, .ref (n0 + 0)), (2, .ref (n0 + 59)), (3, .int (nI i))] [] K I L Q := by
  by_cases gf : xs (i + 3) = 0
  · rw [if_pos gf] at hop
    refine yh_aload_n 1 dL_law_1875 rfl ?_
    refine yh_aload_n 0 dL_law_1876 rfl ?_
    refine yh_iload_n 3 dL_law_1877 rfl ?_
    refine yh_iconst 1 dL_law_1878 (by decide) ?_
    refine yh_iadd dL_law_1879 ?_
    refine yh_sld hG dL_law_1880 (law_ix (c := 1) (j := 1) rfl hi hLx (by omega)) ?_
    rw [law_cl (c := 1) (j := 1) rfl hi hLx (by omega)]
    refine yh_aload_n 0 dL_law_1881 rfl ?_
    refine yh_iload_n 3 dL_law_1882 rfl ?_
    refine yh_iconst 2 dL_law_1883 (by decide) ?_
    refine yh_iadd dL_law_1884 ?_
    refine yh_sld hG dL_law_1885 (law_ix (c := 2) (j := 2) rfl hi hLx (by omega)) ?_
    rw [law_cl (c := 2) (j := 2) rfl hi hLx (by omega)]
    refine yh_aload_n 0 dL_law_1886 rfl ?_
    refine yh_iload_n 3 dL_law_1887 rfl ?_
    refine yh_iconst 3 dL_law_1888 (by decide) ?_
    refine yh_iadd dL_law_1889 ?_
    refine yh_sld hG dL_law_1890 (law_ix (c := 3) (j := 3) rfl hi hLx (by omega)) ?_
    rw [law_cl (c := 3) (j := 3) rfl hi hLx (by omega)]
    refine yh_if_eq 1898 dL_law_1891 (by decide) (fun _ => ?_) (fun z => absurd gf z)
    refine yh_iconst 0 dL_law_1898 (by decide) ?_
    refine yh_callV (rc := rc) (rs := rs) (mc1 := mc) (ms1 := ms) (k := 0) (c := 12) (As := [.int (xs (i + 1)), .int (xs (i + 2)), .int 0]) dL_law_1899 hy_X12_cut h0 h12 (by decide) wg_1210 wg_1211 wg_1212 hdc (Nat.le_of_ble_eq_true rfl) (RM.mono hop ?_)
    clear hop
    rintro vv K1 I1 L1 ⟨r, rfl, hop⟩
    change ZH G n0 xL_law d rc rs _ _ [.int r] K1 I1 L1 Q
    refine yh_aload_n 2 dL_law_1902 rfl ?_
    refine yh_aload_n 0 dL_law_1903 rfl ?_
    refine yh_iload_n 3 dL_law_1904 rfl ?_
    refine yh_iconst 1 dL_law_1905 (by decide) ?_
    refine yh_iadd dL_law_1906 ?_
    refine yh_sld hG dL_law_1907 (law_ix (c := 1) (j := 1) rfl hi hLx (by omega)) ?_
    rw [law_cl (c := 1) (j := 1) rfl hi hLx (by omega)]
    refine yh_aload_n 0 dL_law_1908 rfl ?_
    refine yh_iload_n 3 dL_law_1909 rfl ?_
    refine yh_iconst 2 dL_law_1910 (by decide) ?_
    refine yh_iadd dL_law_1911 ?_
    refine yh_sld hG dL_law_1912 (law_ix (c := 2) (j := 2) rfl hi hLx (by omega)) ?_
    rw [law_cl (c := 2) (j := 2) rfl hi hLx (by omega)]
    refine yh_aload_n 0 dL_law_1913 rfl ?_
    refine yh_iload_n 3 dL_law_1914 rfl ?_
    refine yh_iconst 3 dL_law_1915 (by decide) ?_
    refine yh_iadd dL_law_1916 ?_
    refine yh_sld hG dL_law_1917 (law_ix (c := 3) (j := 3) rfl hi hLx (by omega)) ?_
    rw [law_cl (c := 3) (j := 3) rfl hi hLx (by omega)]
    refine yh_if_eq 1925 dL_law_1918 (by decide) (fun _ => ?_) (fun z => absurd gf z)
    refine yh_iconst 0 dL_law_1925 (by decide) ?_
    refine yh_callM (As := [.int (xs (i + 1)), .int (xs (i + 2)), .int 0]) (st := [.int r]) dL_law_1926 hy_X13_cut wg_2168 wg_2169 wg_2170 hdr (Nat.le_of_ble_eq_true rfl) (RM0.mono hop ?_)
    clear hop
    rintro vv I2 L2 ⟨rfl, hP⟩
    change ZH G n0 xL_law d rc rs _ _ [.int r, .int r] K1 I2 L2 Q
    refine yh_icmp_eq 2342 dL_law_1929 (by decide) (fun _ => ?_) (fun z => absurd rfl z)
    refine yh_iinc (j := 3) (nI (i + 9)) [1, 2, 3, 0] [(0, .ref b), (1, .ref (n0 + 0)), (2, .ref (n0 + 59)), (3, .int (nI (i + 9)))] dL_law_2342 rfl q_nadd (Nat.le_of_ble_eq_true rfl) rfl ?_
    refine yh_goto 18 dL_law_2345 (by decide) ?_
    exact ZH.ofG hP
  · rw [if_neg gf] at hop
    refine yh_aload_n 1 dL_law_1875 rfl ?_
    refine yh_aload_n 0 dL_law_1876 rfl ?_
    refine yh_iload_n 3 dL_law_1877 rfl ?_
    refine yh_iconst 1 dL_law_1878 (by decide) ?_
    refine yh_iadd dL_law_1879 ?_
    refine yh_sld hG dL_law_1880 (law_ix (c := 1) (j := 1) rfl hi hLx (by omega)) ?_
    rw [law_cl (c := 1) (j := 1) rfl hi hLx (by omega)]
    refine yh_aload_n 0 dL_law_1881 rfl ?_
    refine yh_iload_n 3 dL_law_1882 rfl ?_
    refine yh_iconst 2 dL_law_1883 (by decide) ?_
    refine yh_iadd dL_law_1884 ?_
    refine yh_sld hG dL_law_1885 (law_ix (c := 2) (j := 2) rfl hi hLx (by omega)) ?_
    rw [law_cl (c := 2) (j := 2) rfl hi hLx (by omega)]
    refine yh_aload_n 0 dL_law_1886 rfl ?_
    refine yh_iload_n 3 dL_law_1887 rfl ?_
    refine yh_iconst 3 dL_law_1888 (by decide) ?_
    refine yh_iadd dL_law_1889 ?_
    refine yh_sld hG dL_law_1890 (law_ix (c := 3) (j := 3) rfl hi hLx (by omega)) ?_
    rw [law_cl (c := 3) (j := 3) rfl hi hLx (by omega)]
    refine yh_if_eq 1898 dL_law_1891 (by decide) (fun z => absurd z gf) (fun _ => ?_)
    refine yh_iconst 1 dL_law_1894 (by decide) ?_
    refine yh_goto 1899 dL_law_1895 (by decide) ?_
    refine yh_callV (rc := rc) (rs := rs) (mc1 := mc) (ms1 := ms) (k := 0) (c := 12) (As := [.int (xs (i + 1)), .int (xs (i + 2)), .int 1]) dL_law_1899 hy_X12_cut h0 h12 (by decide) wg_1210 wg_1211 wg_1212 hdc (Nat.le_of_ble_eq_true rfl) (RM.mono hop ?_)
    clear hop
    rintro vv K1 I1 L1 ⟨r, rfl, hop⟩
    change ZH G n0 xL_law d rc rs _ _ [.int r] K1 I1 L1 Q
    refine yh_aload_n 2 dL_law_1902 rfl ?_
    refine yh_aload_n 0 dL_law_1903 rfl ?_
    refine yh_iload_n 3 dL_law_1904 rfl ?_
    refine yh_iconst 1 dL_law_1905 (by decide) ?_
    refine yh_iadd dL_law_1906 ?_
    refine yh_sld hG dL_law_1907 (law_ix (c := 1) (j := 1) rfl hi hLx (by omega)) ?_
    rw [law_cl (c := 1) (j := 1) rfl hi hLx (by omega)]
    refine yh_aload_n 0 dL_law_1908 rfl ?_
    refine yh_iload_n 3 dL_law_1909 rfl ?_
    refine yh_iconst 2 dL_law_1910 (by decide) ?_
    refine yh_iadd dL_law_1911 ?_
    refine yh_sld hG dL_law_1912 (law_ix (c := 2) (j := 2) rfl hi hLx (by omega)) ?_
    rw [law_cl (c := 2) (j := 2) rfl hi hLx (by omega)]
    refine yh_aload_n 0 dL_law_1913 rfl ?_
    refine yh_iload_n 3 dL_law_1914 rfl ?_
    refine yh_iconst 3 dL_law_1915 (by decide) ?_
    refine yh_iadd dL_law_1916 ?_
    refine yh_sld hG dL_law_1917 (law_ix (c := 3) (j := 3) rfl hi hLx (by omega)) ?_
    rw [law_cl (c := 3) (j := 3) rfl hi hLx (by omega)]
    refine yh_if_eq 1925 dL_law_1918 (by decide) (fun z => absurd z gf) (fun _ => ?_)
    refine yh_iconst 1 dL_law_1921 (by decide) ?_
    refine yh_goto 1926 dL_law_1922 (by decide) ?_
    refine yh_callM (As := [.int (xs (i + 1)), .int (xs (i + 2)), .int 1]) (st := [.int r]) dL_law_1926 hy_X13_cut wg_2168 wg_2169 wg_2170 hdr (Nat.le_of_ble_eq_true rfl) (RM0.mono hop ?_)
    clear hop
    rintro vv I2 L2 ⟨rfl, hP⟩
    change ZH G n0 xL_law d rc rs _ _ [.int r, .int r] K1 I2 L2 Q
    refine yh_icmp_eq 2342 dL_law_1929 (by decide) (fun _ => ?_) (fun z => absurd rfl z)
    refine yh_iinc (j := 3) (nI (i + 9)) [1, 2, 3, 0] [(0, .ref b), (1, .ref (n0 + 0)), (2, .ref (n0 + 59)), (3, .int (nI (i + 9)))] dL_law_2342 rfl q_nadd (Nat.le_of_ble_eq_true rfl) rfl ?_
    refine yh_goto 18 dL_law_2345 (by decide) ?_
    exact ZH.ofG hP
theorem lw_trial (hG : G.2.2.2 3 = (b, Lx, xs)) (hi : i + 9 ≤ Lx) (hLx : Lx ≤ 4608) (h0 : 0 < K.1) (h12 : (K.2.1 0).1 = 12) (hdc : dc + 1 ≤ d) (hdr : dr + 1 ≤ d)
    (hop : OpA n0 xX12_trial xX13_trial dc dr mc ms [.int (xs (i + 1)), .int (xs (i + 2)), .int (xs (i + 3)), .int (xs (i + 4)), .int (xs (i + 5)), .int (xs (i + 6))] K I L (fun K' I' L' => ZG G n0 xL_law d rc rs 18 [(0, .ref b), (1, .ref (n0 + 0)), (2, .ref (n0 + 59)), (3, .int (nI (i + 9)))] [] K' I' L' Q)) :
    ZH G n0 xL_law d (rc + mc) (rs + ms) 1934 [(0, .ref b), (1, .ref (n0 + 0)), (2, .ref (n0 + 59)), (3, .int (nI i))] [] K I L Q := by
  refine yh_aload_n 1 dL_law_1934 rfl ?_
  refine yh_aload_n 0 dL_law_1935 rfl ?_
  refine yh_iload_n 3 dL_law_1936 rfl ?_
  refine yh_iconst 1 dL_law_1937 (by decide) ?_
  refine yh_iadd dL_law_1938 ?_
  refine yh_sld hG dL_law_1939 (law_ix (c := 1) (j := 1) rfl hi hLx (by omega)) ?_
  rw [law_cl (c := 1) (j := 1) rfl hi hLx (by omega)]
  refine yh_aload_n 0 dL_law_1940 rfl ?_
  refine yh_iload_n 3 dL_law_1941 rfl ?_
  refine yh_iconst 2 dL_law_1942 (by decide) ?_
  refine yh_iadd dL_law_1943 ?_
  refine yh_sld hG dL_law_1944 (law_ix (c := 2) (j := 2) rfl hi hLx (by omega)) ?_
  rw [law_cl (c := 2) (j := 2) rfl hi hLx (by omega)]
  refine yh_aload_n 0 dL_law_1945 rfl ?_
  refine yh_iload_n 3 dL_law_1946 rfl ?_
  refine yh_iconst 3 dL_law_1947 (by decide) ?_
  refine yh_iadd dL_law_1948 ?_
  refine yh_sld hG dL_law_1949 (law_ix (c := 3) (j := 3) rfl hi hLx (by omega)) ?_
  rw [law_cl (c := 3) (j := 3) rfl hi hLx (by omega)]
  refine yh_aload_n 0 dL_law_1950 rfl ?_
  refine yh_iload_n 3 dL_law_1951 rfl ?_
  refine yh_iconst 4 dL_law_1952 (by decide) ?_
  refine yh_iadd dL_law_1953 ?_
  refine yh_sld hG dL_law_1954 (law_ix (c := 4) (j := 4) rfl hi hLx (by omega)) ?_
  rw [law_cl (c := 4) (j := 4) rfl hi hLx (by omega)]
  refine yh_aload_n 0 dL_law_1955 rfl ?_
  refine yh_iload_n 3 dL_law_1956 rfl ?_
  refine yh_iconst 5 dL_law_1957 (by decide) ?_
  refine yh_iadd dL_law_1958 ?_
  refine yh_sld hG dL_law_1959 (law_ix (c := 5) (j := 5) rfl hi hLx (by omega)) ?_
  rw [law_cl (c := 5) (j := 5) rfl hi hLx (by omega)]
  refine yh_aload_n 0 dL_law_1960 rfl ?_
  refine yh_iload_n 3 dL_law_1961 rfl ?_
  refine yh_bipush 6 dL_law_1962 (by decide) ?_
  refine yh_iadd dL_law_1964 ?_
  refine yh_sld hG dL_law_1965 (law_ix (c := 6) (j := 6) rfl hi hLx (by omega)) ?_
  rw [law_cl (c := 6) (j := 6) rfl hi hLx (by omega)]
  refine yh_callV (rc := rc) (rs := rs) (mc1 := mc) (ms1 := ms) (k := 0) (c := 12) (As := [.int (xs (i + 1)), .int (xs (i + 2)), .int (xs (i + 3)), .int (xs (i + 4)), .int (xs (i + 5)), .int (xs (i + 6))]) dL_law_1966 hy_X12_trial h0 h12 (by decide) wg_1218 wg_1219 wg_1220 hdc (Nat.le_of_ble_eq_true rfl) (RM.mono hop ?_)
  clear hop
  rintro vv K1 I1 L1 ⟨r, rfl, hop⟩
  change ZH G n0 xL_law d rc rs _ _ [.int r] K1 I1 L1 Q
  refine yh_aload_n 2 dL_law_1969 rfl ?_
  refine yh_aload_n 0 dL_law_1970 rfl ?_
  refine yh_iload_n 3 dL_law_1971 rfl ?_
  refine yh_iconst 1 dL_law_1972 (by decide) ?_
  refine yh_iadd dL_law_1973 ?_
  refine yh_sld hG dL_law_1974 (law_ix (c := 1) (j := 1) rfl hi hLx (by omega)) ?_
  rw [law_cl (c := 1) (j := 1) rfl hi hLx (by omega)]
  refine yh_aload_n 0 dL_law_1975 rfl ?_
  refine yh_iload_n 3 dL_law_1976 rfl ?_
  refine yh_iconst 2 dL_law_1977 (by decide) ?_
  refine yh_iadd dL_law_1978 ?_
  refine yh_sld hG dL_law_1979 (law_ix (c := 2) (j := 2) rfl hi hLx (by omega)) ?_
  rw [law_cl (c := 2) (j := 2) rfl hi hLx (by omega)]
  refine yh_aload_n 0 dL_law_1980 rfl ?_
  refine yh_iload_n 3 dL_law_1981 rfl ?_
  refine yh_iconst 3 dL_law_1982 (by decide) ?_
  refine yh_iadd dL_law_1983 ?_
  refine yh_sld hG dL_law_1984 (law_ix (c := 3) (j := 3) rfl hi hLx (by omega)) ?_
  rw [law_cl (c := 3) (j := 3) rfl hi hLx (by omega)]
  refine yh_aload_n 0 dL_law_1985 rfl ?_
  refine yh_iload_n 3 dL_law_1986 rfl ?_
  refine yh_iconst 4 dL_law_1987 (by decide) ?_
  refine yh_iadd dL_law_1988 ?_
  refine yh_sld hG dL_law_1989 (law_ix (c := 4) (j := 4) rfl hi hLx (by omega)) ?_
  rw [law_cl (c := 4) (j := 4) rfl hi hLx (by omega)]
  refine yh_aload_n 0 dL_law_1990 rfl ?_
  refine yh_iload_n 3 dL_law_1991 rfl ?_
  refine yh_iconst 5 dL_law_1992 (by decide) ?_
  refine yh_iadd dL_law_1993 ?_
  refine yh_sld hG dL_law_1994 (law_ix (c := 5) (j := 5) rfl hi hLx (by omega)) ?_
  rw [law_cl (c := 5) (j := 5) rfl hi hLx (by omega)]
  refine yh_aload_n 0 dL_law_1995 rfl ?_
  refine yh_iload_n 3 dL_law_1996 rfl ?_
  refine yh_bipush 6 dL_law_1997 (by decide) ?_
  refine yh_iadd dL_law_1999 ?_
  refine yh_sld hG dL_law_2000 (law_ix (c := 6) (j := 6) rfl hi hLx (by omega)) ?_
  rw [law_cl (c := 6) (j := 6) rfl hi hLx (by omega)]
  refine yh_callM (As := [.int (xs (i + 1)), .int (xs (i + 2)), .int (xs (i + 3)), .int (xs (i + 4)), .int (xs (i + 5)), .int (xs (i + 6))]) (st := [.int r]) dL_law_2001 hy_X13_trial wg_2174 wg_2175 wg_2176 hdr (Nat.le_of_ble_eq_true rfl) (RM0.mono hop ?_)
  clear hop
  rintro vv I2 L2 ⟨rfl, hP⟩
  change ZH G n0 xL_law d rc rs _ _ [.int r, .int r] K1 I2 L2 Q
  refine yh_icmp_eq 2342 dL_law_2004 (by decide) (fun _ => ?_) (fun z => absurd rfl z)
  refine yh_iinc (j := 3) (nI (i + 9)) [1, 2, 3, 0] [(0, .ref b), (1, .ref (n0 + 0)), (2, .ref (n0 + 59)), (3, .int (nI (i + 9)))] dL_law_2342 rfl q_nadd (Nat.le_of_ble_eq_true rfl) rfl ?_
  refine yh_goto 18 dL_law_2345 (by decide) ?_
  exact ZH.ofG hP
theorem lw_said (hG : G.2.2.2 3 = (b, Lx, xs)) (hi : i + 9 ≤ Lx) (hLx : Lx ≤ 4608) (h0 : 0 < K.1) (h12 : (K.2.1 0).1 = 12) (hdc : dc + 1 ≤ d) (hdr : dr + 1 ≤ d)
    (hop : OpA n0 xX12_said xX13_said dc dr mc ms [.int (xs (i + 1)), .int (xs (i + 2)), .int (xs (i + 3)), .int (xs (i + 4)), .int (xs (i + 5))] K I L (fun K' I' L' => ZG G n0 xL_law d rc rs 18 [(0, .ref b), (1, .ref (n0 + 0)), (2, .ref (n0 + 59)), (3, .int (nI (i + 9)))] [] K' I' L' Q)) :
    ZH G n0 xL_law d (rc + mc) (rs + ms) 2009 [(0, .ref b), (1, .ref (n0 + 0)), (2, .ref (n0 + 59)), (3, .int (nI i))] [] K I L Q := by
  refine yh_aload_n 1 dL_law_2009 rfl ?_
  refine yh_aload_n 0 dL_law_2010 rfl ?_
  refine yh_iload_n 3 dL_law_2011 rfl ?_
  refine yh_iconst 1 dL_law_2012 (by decide) ?_
  refine yh_iadd dL_law_2013 ?_
  refine yh_sld hG dL_law_2014 (law_ix (c := 1) (j := 1) rfl hi hLx (by omega)) ?_
  rw [law_cl (c := 1) (j := 1) rfl hi hLx (by omega)]
  refine yh_aload_n 0 dL_law_2015 rfl ?_
  refine yh_iload_n 3 dL_law_2016 rfl ?_
  refine yh_iconst 2 dL_law_2017 (by decide) ?_
  refine yh_iadd dL_law_2018 ?_
  refine yh_sld hG dL_law_2019 (law_ix (c := 2) (j := 2) rfl hi hLx (by omega)) ?_
  rw [law_cl (c := 2) (j := 2) rfl hi hLx (by omega)]
  refine yh_aload_n 0 dL_law_2020 rfl ?_
  refine yh_iload_n 3 dL_law_2021 rfl ?_
  refine yh_iconst 3 dL_law_2022 (by decide) ?_
  refine yh_iadd dL_law_2023 ?_
  refine yh_sld hG dL_law_2024 (law_ix (c := 3) (j := 3) rfl hi hLx (by omega)) ?_
  rw [law_cl (c := 3) (j := 3) rfl hi hLx (by omega)]
  refine yh_aload_n 0 dL_law_2025 rfl ?_
  refine yh_iload_n 3 dL_law_2026 rfl ?_
  refine yh_iconst 4 dL_law_2027 (by decide) ?_
  refine yh_iadd dL_law_2028 ?_
  refine yh_sld hG dL_law_2029 (law_ix (c := 4) (j := 4) rfl hi hLx (by omega)) ?_
  rw [law_cl (c := 4) (j := 4) rfl hi hLx (by omega)]
  refine yh_aload_n 0 dL_law_2030 rfl ?_
  refine yh_iload_n 3 dL_law_2031 rfl ?_
  refine yh_iconst 5 dL_law_2032 (by decide) ?_
  refine yh_iadd dL_law_2033 ?_
  refine yh_sld hG dL_law_2034 (law_ix (c := 5) (j := 5) rfl hi hLx (by omega)) ?_
  rw [law_cl (c := 5) (j := 5) rfl hi hLx (by omega)]
  refine yh_callV (rc := rc) (rs := rs) (mc1 := mc) (ms1 := ms) (k := 0) (c := 12) (As := [.int (xs (i + 1)), .int (xs (i + 2)), .int (xs (i + 3)), .int (xs (i + 4)), .int (xs (i + 5))]) dL_law_2035 hy_X12_said h0 h12 (by decide) wg_1229 wg_1230 wg_1231 hdc (Nat.le_of_ble_eq_true rfl) (RM.mono hop ?_)
  clear hop
  rintro vv K1 I1 L1 ⟨r, rfl, hop⟩
  change ZH G n0 xL_law d rc rs _ _ [.int r] K1 I1 L1 Q
  refine yh_aload_n 2 dL_law_2038 rfl ?_
  refine yh_aload_n 0 dL_law_2039 rfl ?_
  refine yh_iload_n 3 dL_law_2040 rfl ?_
  refine yh_iconst 1 dL_law_2041 (by decide) ?_
  refine yh_iadd dL_law_2042 ?_
  refine yh_sld hG dL_law_2043 (law_ix (c := 1) (j := 1) rfl hi hLx (by omega)) ?_
  rw [law_cl (c := 1) (j := 1) rfl hi hLx (by omega)]
  refine yh_aload_n 0 dL_law_2044 rfl ?_
  refine yh_iload_n 3 dL_law_2045 rfl ?_
  refine yh_iconst 2 dL_law_2046 (by decide) ?_
  refine yh_iadd dL_law_2047 ?_
  refine yh_sld hG dL_law_2048 (law_ix (c := 2) (j := 2) rfl hi hLx (by omega)) ?_
  rw [law_cl (c := 2) (j := 2) rfl hi hLx (by omega)]
  refine yh_aload_n 0 dL_law_2049 rfl ?_
  refine yh_iload_n 3 dL_law_2050 rfl ?_
  refine yh_iconst 3 dL_law_2051 (by decide) ?_
  refine yh_iadd dL_law_2052 ?_
  refine yh_sld hG dL_law_2053 (law_ix (c := 3) (j := 3) rfl hi hLx (by omega)) ?_
  rw [law_cl (c := 3) (j := 3) rfl hi hLx (by omega)]
  refine yh_aload_n 0 dL_law_2054 rfl ?_
  refine yh_iload_n 3 dL_law_2055 rfl ?_
  refine yh_iconst 4 dL_law_2056 (by decide) ?_
  refine yh_iadd dL_law_2057 ?_
  refine yh_sld hG dL_law_2058 (law_ix (c := 4) (j := 4) rfl hi hLx (by omega)) ?_
  rw [law_cl (c := 4) (j := 4) rfl hi hLx (by omega)]
  refine yh_aload_n 0 dL_law_2059 rfl ?_
  refine yh_iload_n 3 dL_law_2060 rfl ?_
  refine yh_iconst 5 dL_law_2061 (by decide) ?_
  refine yh_iadd dL_law_2062 ?_
  refine yh_sld hG dL_law_2063 (law_ix (c := 5) (j := 5) rfl hi hLx (by omega)) ?_
  rw [law_cl (c := 5) (j := 5) rfl hi hLx (by omega)]
  refine yh_callM (As := [.int (xs (i + 1)), .int (xs (i + 2)), .int (xs (i + 3)), .int (xs (i + 4)), .int (xs (i + 5))]) (st := [.int r]) dL_law_2064 hy_X13_said wg_2178 wg_2179 wg_2180 hdr (Nat.le_of_ble_eq_true rfl) (RM0.mono hop ?_)
  clear hop
  rintro vv I2 L2 ⟨rfl, hP⟩
  change ZH G n0 xL_law d rc rs _ _ [.int r, .int r] K1 I2 L2 Q
  refine yh_icmp_eq 2342 dL_law_2067 (by decide) (fun _ => ?_) (fun z => absurd rfl z)
  refine yh_iinc (j := 3) (nI (i + 9)) [1, 2, 3, 0] [(0, .ref b), (1, .ref (n0 + 0)), (2, .ref (n0 + 59)), (3, .int (nI (i + 9)))] dL_law_2342 rfl q_nadd (Nat.le_of_ble_eq_true rfl) rfl ?_
  refine yh_goto 18 dL_law_2345 (by decide) ?_
  exact ZH.ofG hP
end LAWC
