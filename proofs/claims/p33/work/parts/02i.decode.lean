theorem dL_law_1842 : decode cL_law 1842 = .ok (.iconst 0, 1) := by decide +kernel
theorem dL_law_1843 : decode cL_law 1843 = .ok (.istore 17, 2) := by decide +kernel
theorem dL_law_1845 : decode cL_law 1845 = .ok (.aload 6, 2) := by decide +kernel
theorem dL_law_1847 : decode cL_law 1847 = .ok (.iload 16, 2) := by decide +kernel
theorem dL_law_1849 : decode cL_law 1849 = .ok (.iconst 1, 1) := by decide +kernel
theorem dL_law_1850 : decode cL_law 1850 = .ok (.iadd, 1) := by decide +kernel
theorem dL_law_1851 : decode cL_law 1851 = .ok (.iaload, 1) := by decide +kernel
theorem dL_law_1852 : decode cL_law 1852 = .ok (.iconst 1, 1) := by decide +kernel
theorem dL_law_1853 : decode cL_law 1853 = .ok (.if_icmp .ne 7, 3) := by decide +kernel
theorem dL_law_1856 : decode cL_law 1856 = .ok (.iconst 0, 1) := by decide +kernel
theorem dL_law_1857 : decode cL_law 1857 = .ok (.goto 10, 3) := by decide +kernel
theorem dL_law_1860 : decode cL_law 1860 = .ok (.aload 6, 2) := by decide +kernel
theorem dL_law_1862 : decode cL_law 1862 = .ok (.iload 16, 2) := by decide +kernel
theorem dL_law_1864 : decode cL_law 1864 = .ok (.iconst 2, 1) := by decide +kernel
theorem dL_law_1865 : decode cL_law 1865 = .ok (.iadd, 1) := by decide +kernel
theorem dL_law_1866 : decode cL_law 1866 = .ok (.iaload, 1) := by decide +kernel
theorem dL_law_1867 : decode cL_law 1867 = .ok (.istore 18, 2) := by decide +kernel
theorem dL_law_1869 : decode cL_law 1869 = .ok (.aload 6, 2) := by decide +kernel
theorem dL_law_1871 : decode cL_law 1871 = .ok (.iload 16, 2) := by decide +kernel
theorem dL_law_1873 : decode cL_law 1873 = .ok (.iconst 1, 1) := by decide +kernel
theorem dL_law_1874 : decode cL_law 1874 = .ok (.iadd, 1) := by decide +kernel
theorem dL_law_1875 : decode cL_law 1875 = .ok (.iaload, 1) := by decide +kernel
theorem dL_law_1876 : decode cL_law 1876 = .ok (.iconst 4, 1) := by decide +kernel
theorem dL_law_1877 : decode cL_law 1877 = .ok (.if_icmp .ge 56, 3) := by decide +kernel
theorem dL_law_1880 : decode cL_law 1880 = .ok (.iload 17, 2) := by decide +kernel
theorem dL_law_1882 : decode cL_law 1882 = .ok (.ifCond .eq 32, 3) := by decide +kernel
theorem dL_law_1885 : decode cL_law 1885 = .ok (.aload_n 2, 1) := by decide +kernel
theorem dL_law_1886 : decode cL_law 1886 = .ok (.bipush 10, 2) := by decide +kernel
theorem dL_law_1888 : decode cL_law 1888 = .ok (.iload 17, 2) := by decide +kernel
theorem dL_law_1890 : decode cL_law 1890 = .ok (.iadd, 1) := by decide +kernel
theorem dL_law_1891 : decode cL_law 1891 = .ok (.iaload, 1) := by decide +kernel
theorem dL_law_1892 : decode cL_law 1892 = .ok (.ifCond .lt 41, 3) := by decide +kernel
theorem dL_law_1895 : decode cL_law 1895 = .ok (.iload 17, 2) := by decide +kernel
theorem dL_law_1897 : decode cL_law 1897 = .ok (.aload_n 3, 1) := by decide +kernel
theorem dL_law_1898 : decode cL_law 1898 = .ok (.aload_n 2, 1) := by decide +kernel
theorem dL_law_1899 : decode cL_law 1899 = .ok (.aload 4, 2) := by decide +kernel
theorem dL_law_1901 : decode cL_law 1901 = .ok (.invokestatic 49, 3) := by decide +kernel
theorem dL_law_1904 : decode cL_law 1904 = .ok (.aload 6, 2) := by decide +kernel
theorem dL_law_1906 : decode cL_law 1906 = .ok (.iload 16, 2) := by decide +kernel
theorem dL_law_1908 : decode cL_law 1908 = .ok (.iconst 4, 1) := by decide +kernel
theorem dL_law_1909 : decode cL_law 1909 = .ok (.iadd, 1) := by decide +kernel
theorem dL_law_1910 : decode cL_law 1910 = .ok (.iaload, 1) := by decide +kernel
theorem dL_law_1911 : decode cL_law 1911 = .ok (.if_icmp .lt 22, 3) := by decide +kernel
theorem dL_law_1914 : decode cL_law 1914 = .ok (.iload 18, 2) := by decide +kernel
theorem dL_law_1916 : decode cL_law 1916 = .ok (.ifCond .eq 13, 3) := by decide +kernel
theorem dL_law_1919 : decode cL_law 1919 = .ok (.aload_n 2, 1) := by decide +kernel
theorem dL_law_1920 : decode cL_law 1920 = .ok (.bipush 10, 2) := by decide +kernel
theorem dL_law_1922 : decode cL_law 1922 = .ok (.iload 18, 2) := by decide +kernel
theorem dL_law_1924 : decode cL_law 1924 = .ok (.iadd, 1) := by decide +kernel
theorem dL_law_1925 : decode cL_law 1925 = .ok (.iaload, 1) := by decide +kernel
theorem dL_law_1926 : decode cL_law 1926 = .ok (.ifCond .lt 7, 3) := by decide +kernel
theorem dL_law_1929 : decode cL_law 1929 = .ok (.iconst 1, 1) := by decide +kernel
theorem dL_law_1930 : decode cL_law 1930 = .ok (.goto 4, 3) := by decide +kernel
theorem dL_law_1933 : decode cL_law 1933 = .ok (.iconst 0, 1) := by decide +kernel
theorem dL_law_1934 : decode cL_law 1934 = .ok (.istore 19, 2) := by decide +kernel
theorem dL_law_1936 : decode cL_law 1936 = .ok (.iload 18, 2) := by decide +kernel
theorem dL_law_1938 : decode cL_law 1938 = .ok (.ifCond .eq 23, 3) := by decide +kernel
theorem dL_law_1941 : decode cL_law 1941 = .ok (.aload_n 3, 1) := by decide +kernel
theorem dL_law_1942 : decode cL_law 1942 = .ok (.iload 18, 2) := by decide +kernel
theorem dL_law_1944 : decode cL_law 1944 = .ok (.laload, 1) := by decide +kernel
theorem dL_law_1945 : decode cL_law 1945 = .ok (.aload 6, 2) := by decide +kernel
theorem dL_law_1947 : decode cL_law 1947 = .ok (.iload 16, 2) := by decide +kernel
theorem dL_law_1949 : decode cL_law 1949 = .ok (.iconst 4, 1) := by decide +kernel
theorem dL_law_1950 : decode cL_law 1950 = .ok (.iadd, 1) := by decide +kernel
theorem dL_law_1951 : decode cL_law 1951 = .ok (.iaload, 1) := by decide +kernel
theorem dL_law_1952 : decode cL_law 1952 = .ok (.i2l, 1) := by decide +kernel
theorem dL_law_1953 : decode cL_law 1953 = .ok (.ladd, 1) := by decide +kernel
theorem dL_law_1954 : decode cL_law 1954 = .ok (.ldc2_w 30, 3) := by decide +kernel
theorem dL_law_1957 : decode cL_law 1957 = .ok (.lcmp, 1) := by decide +kernel
theorem dL_law_1958 : decode cL_law 1958 = .ok (.ifCond .gt 7, 3) := by decide +kernel
theorem dL_law_1961 : decode cL_law 1961 = .ok (.iconst 1, 1) := by decide +kernel
theorem dL_law_1962 : decode cL_law 1962 = .ok (.goto 4, 3) := by decide +kernel
theorem dL_law_1965 : decode cL_law 1965 = .ok (.iconst 0, 1) := by decide +kernel
theorem dL_law_1966 : decode cL_law 1966 = .ok (.istore 20, 2) := by decide +kernel
theorem dL_law_1968 : decode cL_law 1968 = .ok (.aload_n 1, 1) := by decide +kernel
theorem dL_law_1969 : decode cL_law 1969 = .ok (.aload_n 2, 1) := by decide +kernel
theorem dL_law_1970 : decode cL_law 1970 = .ok (.iconst 5, 1) := by decide +kernel
theorem dL_law_1971 : decode cL_law 1971 = .ok (.iaload, 1) := by decide +kernel
theorem dL_law_1972 : decode cL_law 1972 = .ok (.invokevirtual 146, 3) := by decide +kernel
theorem dL_law_1975 : decode cL_law 1975 = .ok (.iload 19, 2) := by decide +kernel
theorem dL_law_1977 : decode cL_law 1977 = .ok (.ifCond .ne 8, 3) := by decide +kernel
theorem dL_law_1980 : decode cL_law 1980 = .ok (.bipush (-3), 2) := by decide +kernel
theorem dL_law_1982 : decode cL_law 1982 = .ok (.goto 18, 3) := by decide +kernel
theorem dL_law_1985 : decode cL_law 1985 = .ok (.iload 20, 2) := by decide +kernel
theorem dL_law_1987 : decode cL_law 1987 = .ok (.ifCond .eq 11, 3) := by decide +kernel
theorem dL_law_1990 : decode cL_law 1990 = .ok (.aload_n 2, 1) := by decide +kernel
theorem dL_law_1991 : decode cL_law 1991 = .ok (.iconst 5, 1) := by decide +kernel
theorem dL_law_1992 : decode cL_law 1992 = .ok (.iaload, 1) := by decide +kernel
theorem dL_law_1993 : decode cL_law 1993 = .ok (.iconst 1, 1) := by decide +kernel
theorem dL_law_1994 : decode cL_law 1994 = .ok (.iadd, 1) := by decide +kernel
theorem dL_law_1995 : decode cL_law 1995 = .ok (.goto 5, 3) := by decide +kernel
theorem dL_law_1998 : decode cL_law 1998 = .ok (.bipush (-4), 2) := by decide +kernel
theorem dL_law_2000 : decode cL_law 2000 = .ok (.if_icmp .eq 5, 3) := by decide +kernel
theorem dL_law_2003 : decode cL_law 2003 = .ok (.iconst 0, 1) := by decide +kernel
theorem dL_law_2004 : decode cL_law 2004 = .ok (.ireturn, 1) := by decide +kernel
theorem dL_law_2005 : decode cL_law 2005 = .ok (.iload 19, 2) := by decide +kernel
theorem dL_law_2007 : decode cL_law 2007 = .ok (.ifCond .eq 297, 3) := by decide +kernel
theorem dL_law_2010 : decode cL_law 2010 = .ok (.iload 20, 2) := by decide +kernel
theorem dL_law_2012 : decode cL_law 2012 = .ok (.ifCond .ne 6, 3) := by decide +kernel
theorem dL_law_2015 : decode cL_law 2015 = .ok (.goto 289, 3) := by decide +kernel
theorem dL_law_2018 : decode cL_law 2018 = .ok (.aload 6, 2) := by decide +kernel
theorem dL_law_2020 : decode cL_law 2020 = .ok (.iload 16, 2) := by decide +kernel
theorem dL_law_2022 : decode cL_law 2022 = .ok (.iconst 4, 1) := by decide +kernel
theorem dL_law_2023 : decode cL_law 2023 = .ok (.iadd, 1) := by decide +kernel
theorem dL_law_2024 : decode cL_law 2024 = .ok (.iaload, 1) := by decide +kernel
theorem dL_law_2025 : decode cL_law 2025 = .ok (.istore 21, 2) := by decide +kernel
theorem dL_law_2027 : decode cL_law 2027 = .ok (.iload 17, 2) := by decide +kernel
theorem dL_law_2029 : decode cL_law 2029 = .ok (.ifCond .le 13, 3) := by decide +kernel
theorem dL_law_2032 : decode cL_law 2032 = .ok (.aload_n 3, 1) := by decide +kernel
theorem dL_law_2033 : decode cL_law 2033 = .ok (.iload 17, 2) := by decide +kernel
theorem dL_law_2035 : decode cL_law 2035 = .ok (.dup2, 1) := by decide +kernel
theorem dL_law_2036 : decode cL_law 2036 = .ok (.laload, 1) := by decide +kernel
theorem dL_law_2037 : decode cL_law 2037 = .ok (.iload 21, 2) := by decide +kernel
theorem dL_law_2039 : decode cL_law 2039 = .ok (.i2l, 1) := by decide +kernel
theorem dL_law_2040 : decode cL_law 2040 = .ok (.lsub, 1) := by decide +kernel
theorem dL_law_2041 : decode cL_law 2041 = .ok (.lastore, 1) := by decide +kernel
theorem dL_law_2042 : decode cL_law 2042 = .ok (.iload 18, 2) := by decide +kernel
theorem dL_law_2044 : decode cL_law 2044 = .ok (.ifCond .le 13, 3) := by decide +kernel
theorem dL_law_2047 : decode cL_law 2047 = .ok (.aload_n 3, 1) := by decide +kernel
theorem dL_law_2048 : decode cL_law 2048 = .ok (.iload 18, 2) := by decide +kernel
theorem dL_law_2050 : decode cL_law 2050 = .ok (.dup2, 1) := by decide +kernel
theorem dL_law_2051 : decode cL_law 2051 = .ok (.laload, 1) := by decide +kernel
theorem dL_law_2052 : decode cL_law 2052 = .ok (.iload 21, 2) := by decide +kernel
theorem dL_law_2054 : decode cL_law 2054 = .ok (.i2l, 1) := by decide +kernel
theorem dL_law_2055 : decode cL_law 2055 = .ok (.ladd, 1) := by decide +kernel
theorem dL_law_2056 : decode cL_law 2056 = .ok (.lastore, 1) := by decide +kernel
theorem dL_law_2057 : decode cL_law 2057 = .ok (.aload_n 3, 1) := by decide +kernel
theorem dL_law_2058 : decode cL_law 2058 = .ok (.bipush 22, 2) := by decide +kernel
theorem dL_law_2060 : decode cL_law 2060 = .ok (.dup2, 1) := by decide +kernel
theorem dL_law_2061 : decode cL_law 2061 = .ok (.laload, 1) := by decide +kernel
theorem dL_law_2062 : decode cL_law 2062 = .ok (.aload 6, 2) := by decide +kernel
theorem dL_law_2064 : decode cL_law 2064 = .ok (.iload 16, 2) := by decide +kernel
theorem dL_law_2066 : decode cL_law 2066 = .ok (.iconst 1, 1) := by decide +kernel
theorem dL_law_2067 : decode cL_law 2067 = .ok (.iadd, 1) := by decide +kernel
theorem dL_law_2068 : decode cL_law 2068 = .ok (.iaload, 1) := by decide +kernel
theorem dL_law_2069 : decode cL_law 2069 = .ok (.iconst 1, 1) := by decide +kernel
theorem dL_law_2070 : decode cL_law 2070 = .ok (.if_icmp .ne 9, 3) := by decide +kernel
theorem dL_law_2073 : decode cL_law 2073 = .ok (.iload 21, 2) := by decide +kernel
theorem dL_law_2075 : decode cL_law 2075 = .ok (.i2l, 1) := by decide +kernel
theorem dL_law_2076 : decode cL_law 2076 = .ok (.goto 4, 3) := by decide +kernel
theorem dL_law_2079 : decode cL_law 2079 = .ok (.lconst 0, 1) := by decide +kernel
theorem dL_law_2080 : decode cL_law 2080 = .ok (.lsub, 1) := by decide +kernel
theorem dL_law_2081 : decode cL_law 2081 = .ok (.lastore, 1) := by decide +kernel
theorem dL_law_2082 : decode cL_law 2082 = .ok (.aload_n 3, 1) := by decide +kernel
theorem dL_law_2083 : decode cL_law 2083 = .ok (.bipush 23, 2) := by decide +kernel
theorem dL_law_2085 : decode cL_law 2085 = .ok (.dup2, 1) := by decide +kernel
theorem dL_law_2086 : decode cL_law 2086 = .ok (.laload, 1) := by decide +kernel
theorem dL_law_2087 : decode cL_law 2087 = .ok (.aload 6, 2) := by decide +kernel
theorem dL_law_2089 : decode cL_law 2089 = .ok (.iload 16, 2) := by decide +kernel
theorem dL_law_2091 : decode cL_law 2091 = .ok (.iconst 1, 1) := by decide +kernel
theorem dL_law_2092 : decode cL_law 2092 = .ok (.iadd, 1) := by decide +kernel
theorem dL_law_2093 : decode cL_law 2093 = .ok (.iaload, 1) := by decide +kernel
theorem dL_law_2094 : decode cL_law 2094 = .ok (.iconst 2, 1) := by decide +kernel
theorem dL_law_2095 : decode cL_law 2095 = .ok (.if_icmp .ne 9, 3) := by decide +kernel
theorem dL_law_2098 : decode cL_law 2098 = .ok (.iload 21, 2) := by decide +kernel
theorem dL_law_2100 : decode cL_law 2100 = .ok (.i2l, 1) := by decide +kernel
theorem dL_law_2101 : decode cL_law 2101 = .ok (.goto 4, 3) := by decide +kernel
theorem dL_law_2104 : decode cL_law 2104 = .ok (.lconst 0, 1) := by decide +kernel
theorem dL_law_2105 : decode cL_law 2105 = .ok (.lsub, 1) := by decide +kernel
theorem dL_law_2106 : decode cL_law 2106 = .ok (.lastore, 1) := by decide +kernel
theorem dL_law_2107 : decode cL_law 2107 = .ok (.aload_n 1, 1) := by decide +kernel
theorem dL_law_2108 : decode cL_law 2108 = .ok (.aload_n 2, 1) := by decide +kernel
theorem dL_law_2109 : decode cL_law 2109 = .ok (.iconst 5, 1) := by decide +kernel
theorem dL_law_2110 : decode cL_law 2110 = .ok (.iaload, 1) := by decide +kernel
theorem dL_law_2111 : decode cL_law 2111 = .ok (.bipush 6, 2) := by decide +kernel
theorem dL_law_2113 : decode cL_law 2113 = .ok (.invokevirtual 59, 3) := by decide +kernel
theorem dL_law_2116 : decode cL_law 2116 = .ok (.iconst 1, 1) := by decide +kernel
theorem dL_law_2117 : decode cL_law 2117 = .ok (.if_icmp .ne 15, 3) := by decide +kernel
theorem dL_law_2120 : decode cL_law 2120 = .ok (.aload_n 1, 1) := by decide +kernel
theorem dL_law_2121 : decode cL_law 2121 = .ok (.aload_n 2, 1) := by decide +kernel
theorem dL_law_2122 : decode cL_law 2122 = .ok (.iconst 5, 1) := by decide +kernel
theorem dL_law_2123 : decode cL_law 2123 = .ok (.iaload, 1) := by decide +kernel
theorem dL_law_2124 : decode cL_law 2124 = .ok (.invokevirtual 146, 3) := by decide +kernel
theorem dL_law_2127 : decode cL_law 2127 = .ok (.bipush (-3), 2) := by decide +kernel
theorem dL_law_2129 : decode cL_law 2129 = .ok (.if_icmp .eq 5, 3) := by decide +kernel
theorem dL_law_2132 : decode cL_law 2132 = .ok (.iconst 0, 1) := by decide +kernel
theorem dL_law_2133 : decode cL_law 2133 = .ok (.ireturn, 1) := by decide +kernel
theorem dL_law_2134 : decode cL_law 2134 = .ok (.bipush 6, 2) := by decide +kernel
theorem dL_law_2136 : decode cL_law 2136 = .ok (.aload 6, 2) := by decide +kernel
theorem dL_law_2138 : decode cL_law 2138 = .ok (.iload 16, 2) := by decide +kernel
theorem dL_law_2140 : decode cL_law 2140 = .ok (.iconst 2, 1) := by decide +kernel
theorem dL_law_2141 : decode cL_law 2141 = .ok (.iadd, 1) := by decide +kernel
theorem dL_law_2142 : decode cL_law 2142 = .ok (.iaload, 1) := by decide +kernel
theorem dL_law_2143 : decode cL_law 2143 = .ok (.aload 6, 2) := by decide +kernel
theorem dL_law_2145 : decode cL_law 2145 = .ok (.iload 16, 2) := by decide +kernel
theorem dL_law_2147 : decode cL_law 2147 = .ok (.iconst 3, 1) := by decide +kernel
theorem dL_law_2148 : decode cL_law 2148 = .ok (.iadd, 1) := by decide +kernel
theorem dL_law_2149 : decode cL_law 2149 = .ok (.iaload, 1) := by decide +kernel
theorem dL_law_2150 : decode cL_law 2150 = .ok (.iload 21, 2) := by decide +kernel
theorem dL_law_2152 : decode cL_law 2152 = .ok (.aload_n 3, 1) := by decide +kernel
theorem dL_law_2153 : decode cL_law 2153 = .ok (.aload_n 2, 1) := by decide +kernel
theorem dL_law_2154 : decode cL_law 2154 = .ok (.aload 6, 2) := by decide +kernel
theorem dL_law_2156 : decode cL_law 2156 = .ok (.invokestatic 36, 3) := by decide +kernel
theorem dL_law_2159 : decode cL_law 2159 = .ok (.aload_n 2, 1) := by decide +kernel
theorem dL_law_2160 : decode cL_law 2160 = .ok (.iconst 5, 1) := by decide +kernel
theorem dL_law_2161 : decode cL_law 2161 = .ok (.iaload, 1) := by decide +kernel
theorem dL_law_2162 : decode cL_law 2162 = .ok (.istore 7, 2) := by decide +kernel
theorem dL_law_2164 : decode cL_law 2164 = .ok (.goto 119, 3) := by decide +kernel
theorem dL_law_2167 : decode cL_law 2167 = .ok (.iconst 0, 1) := by decide +kernel
theorem dL_law_2168 : decode cL_law 2168 = .ok (.istore 16, 2) := by decide +kernel
theorem dL_law_2170 : decode cL_law 2170 = .ok (.iconst 0, 1) := by decide +kernel
theorem dL_law_2171 : decode cL_law 2171 = .ok (.istore 17, 2) := by decide +kernel
theorem dL_law_2173 : decode cL_law 2173 = .ok (.iload 17, 2) := by decide +kernel
theorem dL_law_2175 : decode cL_law 2175 = .ok (.bipush 60, 2) := by decide +kernel
theorem dL_law_2177 : decode cL_law 2177 = .ok (.if_icmp .ge 31, 3) := by decide +kernel
theorem dL_law_2180 : decode cL_law 2180 = .ok (.iload 16, 2) := by decide +kernel
theorem dL_law_2182 : decode cL_law 2182 = .ok (.ifCond .ne 13, 3) := by decide +kernel
theorem dL_law_2185 : decode cL_law 2185 = .ok (.aload 5, 2) := by decide +kernel
theorem dL_law_2187 : decode cL_law 2187 = .ok (.iload 17, 2) := by decide +kernel
theorem dL_law_2189 : decode cL_law 2189 = .ok (.iaload, 1) := by decide +kernel
theorem dL_law_2190 : decode cL_law 2190 = .ok (.iload 12, 2) := by decide +kernel
theorem dL_law_2192 : decode cL_law 2192 = .ok (.if_icmp .ne 7, 3) := by decide +kernel
theorem dL_law_2195 : decode cL_law 2195 = .ok (.iconst 1, 1) := by decide +kernel
theorem dL_law_2196 : decode cL_law 2196 = .ok (.goto 4, 3) := by decide +kernel
theorem dL_law_2199 : decode cL_law 2199 = .ok (.iconst 0, 1) := by decide +kernel
theorem dL_law_2200 : decode cL_law 2200 = .ok (.istore 16, 2) := by decide +kernel
theorem dL_law_2202 : decode cL_law 2202 = .ok (.iinc 17 3, 3) := by decide +kernel
theorem dL_law_2205 : decode cL_law 2205 = .ok (.goto (-32), 3) := by decide +kernel
theorem dL_law_2208 : decode cL_law 2208 = .ok (.iload 14, 2) := by decide +kernel
theorem dL_law_2210 : decode cL_law 2210 = .ok (.ifCond .eq 21, 3) := by decide +kernel
theorem dL_law_2213 : decode cL_law 2213 = .ok (.aload_n 3, 1) := by decide +kernel
theorem dL_law_2214 : decode cL_law 2214 = .ok (.iload 12, 2) := by decide +kernel
theorem dL_law_2216 : decode cL_law 2216 = .ok (.laload, 1) := by decide +kernel
theorem dL_law_2217 : decode cL_law 2217 = .ok (.lconst 0, 1) := by decide +kernel
theorem dL_law_2218 : decode cL_law 2218 = .ok (.lcmp, 1) := by decide +kernel
theorem dL_law_2219 : decode cL_law 2219 = .ok (.ifCond .ne 12, 3) := by decide +kernel
theorem dL_law_2222 : decode cL_law 2222 = .ok (.iload 16, 2) := by decide +kernel
theorem dL_law_2224 : decode cL_law 2224 = .ok (.ifCond .ne 7, 3) := by decide +kernel
theorem dL_law_2227 : decode cL_law 2227 = .ok (.iconst 1, 1) := by decide +kernel
theorem dL_law_2228 : decode cL_law 2228 = .ok (.goto 4, 3) := by decide +kernel
theorem dL_law_2231 : decode cL_law 2231 = .ok (.iconst 0, 1) := by decide +kernel
theorem dL_law_2232 : decode cL_law 2232 = .ok (.istore 17, 2) := by decide +kernel
theorem dL_law_2234 : decode cL_law 2234 = .ok (.aload_n 1, 1) := by decide +kernel
theorem dL_law_2235 : decode cL_law 2235 = .ok (.iload 12, 2) := by decide +kernel
theorem dL_law_2237 : decode cL_law 2237 = .ok (.invokevirtual 149, 3) := by decide +kernel
theorem dL_law_2240 : decode cL_law 2240 = .ok (.iload 14, 2) := by decide +kernel
theorem dL_law_2242 : decode cL_law 2242 = .ok (.ifCond .ne 7, 3) := by decide +kernel
theorem dL_law_2245 : decode cL_law 2245 = .ok (.iconst (-1), 1) := by decide +kernel
theorem dL_law_2246 : decode cL_law 2246 = .ok (.goto 19, 3) := by decide +kernel
theorem dL_law_2249 : decode cL_law 2249 = .ok (.iload 17, 2) := by decide +kernel
theorem dL_law_2251 : decode cL_law 2251 = .ok (.ifCond .eq 12, 3) := by decide +kernel
theorem dL_law_2254 : decode cL_law 2254 = .ok (.aload_n 2, 1) := by decide +kernel
theorem dL_law_2255 : decode cL_law 2255 = .ok (.invokestatic 93, 3) := by decide +kernel
theorem dL_law_2258 : decode cL_law 2258 = .ok (.iconst 1, 1) := by decide +kernel
theorem dL_law_2259 : decode cL_law 2259 = .ok (.isub, 1) := by decide +kernel
theorem dL_law_2260 : decode cL_law 2260 = .ok (.goto 5, 3) := by decide +kernel
theorem dL_law_2263 : decode cL_law 2263 = .ok (.bipush (-3), 2) := by decide +kernel
theorem dL_law_2265 : decode cL_law 2265 = .ok (.if_icmp .eq 5, 3) := by decide +kernel
theorem dL_law_2268 : decode cL_law 2268 = .ok (.iconst 0, 1) := by decide +kernel
theorem dL_law_2269 : decode cL_law 2269 = .ok (.ireturn, 1) := by decide +kernel
theorem dL_law_2270 : decode cL_law 2270 = .ok (.iload 17, 2) := by decide +kernel
theorem dL_law_2272 : decode cL_law 2272 = .ok (.ifCond .eq 11, 3) := by decide +kernel
theorem dL_law_2275 : decode cL_law 2275 = .ok (.aload_n 2, 1) := by decide +kernel
theorem dL_law_2276 : decode cL_law 2276 = .ok (.bipush 10, 2) := by decide +kernel
theorem dL_law_2278 : decode cL_law 2278 = .ok (.iload 12, 2) := by decide +kernel
theorem dL_law_2280 : decode cL_law 2280 = .ok (.iadd, 1) := by decide +kernel
theorem dL_law_2281 : decode cL_law 2281 = .ok (.iconst (-1), 1) := by decide +kernel
theorem dL_law_2282 : decode cL_law 2282 = .ok (.iastore, 1) := by decide +kernel
theorem dL_law_2283 : decode cL_law 2283 = .ok (.aload_n 1, 1) := by decide +kernel
theorem dL_law_2284 : decode cL_law 2284 = .ok (.iload 10, 2) := by decide +kernel
theorem dL_law_2286 : decode cL_law 2286 = .ok (.iconst 3, 1) := by decide +kernel
theorem dL_law_2287 : decode cL_law 2287 = .ok (.ishr, 1) := by decide +kernel
theorem dL_law_2288 : decode cL_law 2288 = .ok (.aload_n 3, 1) := by decide +kernel
theorem dL_law_2289 : decode cL_law 2289 = .ok (.aload_n 2, 1) := by decide +kernel
theorem dL_law_2290 : decode cL_law 2290 = .ok (.aload 4, 2) := by decide +kernel
theorem dL_law_2292 : decode cL_law 2292 = .ok (.aload 5, 2) := by decide +kernel
theorem dL_law_2294 : decode cL_law 2294 = .ok (.aload 6, 2) := by decide +kernel
theorem dL_law_2296 : decode cL_law 2296 = .ok (.invokestatic 152, 3) := by decide +kernel
theorem dL_law_2299 : decode cL_law 2299 = .ok (.ifCond .ne 5, 3) := by decide +kernel
theorem dL_law_2302 : decode cL_law 2302 = .ok (.iconst 0, 1) := by decide +kernel
theorem dL_law_2303 : decode cL_law 2303 = .ok (.ireturn, 1) := by decide +kernel
theorem dL_law_2304 : decode cL_law 2304 = .ok (.iinc 8 1, 3) := by decide +kernel
theorem dL_law_2307 : decode cL_law 2307 = .ok (.goto (-2213), 3) := by decide +kernel
theorem dL_law_2310 : decode cL_law 2310 = .ok (.iconst 1, 1) := by decide +kernel
theorem dL_law_2311 : decode cL_law 2311 = .ok (.ireturn, 1) := by decide +kernel
theorem dL_clients_0 : decode cL_clients 0 = .ok (.iconst 0, 1) := by decide +kernel
theorem dL_clients_1 : decode cL_clients 1 = .ok (.istore_n 1, 1) := by decide +kernel
theorem dL_clients_2 : decode cL_clients 2 = .ok (.iconst 1, 1) := by decide +kernel
theorem dL_clients_3 : decode cL_clients 3 = .ok (.istore_n 2, 1) := by decide +kernel
theorem dL_clients_4 : decode cL_clients 4 = .ok (.iload_n 2, 1) := by decide +kernel
theorem dL_clients_5 : decode cL_clients 5 = .ok (.bipush 7, 2) := by decide +kernel
theorem dL_clients_7 : decode cL_clients 7 = .ok (.if_icmp .ge 26, 3) := by decide +kernel
theorem dL_clients_10 : decode cL_clients 10 = .ok (.iload_n 1, 1) := by decide +kernel
theorem dL_clients_11 : decode cL_clients 11 = .ok (.aload_n 0, 1) := by decide +kernel
theorem dL_clients_12 : decode cL_clients 12 = .ok (.bipush 10, 2) := by decide +kernel
theorem dL_clients_14 : decode cL_clients 14 = .ok (.iload_n 2, 1) := by decide +kernel
theorem dL_clients_15 : decode cL_clients 15 = .ok (.iadd, 1) := by decide +kernel
theorem dL_clients_16 : decode cL_clients 16 = .ok (.iaload, 1) := by decide +kernel
theorem dL_clients_17 : decode cL_clients 17 = .ok (.ifCond .ge 7, 3) := by decide +kernel
theorem dL_clients_20 : decode cL_clients 20 = .ok (.iconst 0, 1) := by decide +kernel
theorem dL_clients_21 : decode cL_clients 21 = .ok (.goto 4, 3) := by decide +kernel
theorem dL_clients_24 : decode cL_clients 24 = .ok (.iconst 1, 1) := by decide +kernel
theorem dL_clients_25 : decode cL_clients 25 = .ok (.iadd, 1) := by decide +kernel
theorem dL_clients_26 : decode cL_clients 26 = .ok (.istore_n 1, 1) := by decide +kernel
theorem dL_clients_27 : decode cL_clients 27 = .ok (.iinc 2 1, 3) := by decide +kernel
theorem dL_clients_30 : decode cL_clients 30 = .ok (.goto (-26), 3) := by decide +kernel
theorem dL_clients_33 : decode cL_clients 33 = .ok (.iload_n 1, 1) := by decide +kernel
theorem dL_clients_34 : decode cL_clients 34 = .ok (.ireturn, 1) := by decide +kernel
