/-! decode rows of the law's body, 8 -/
theorem dL_law_1929 : decode code 1929 = .ok (.aload_n 1, 1) := by decide +kernel
theorem dL_law_1930 : decode code 1930 = .ok (.invokevirtual 268, 3) := by decide +kernel
theorem dL_law_1933 : decode code 1933 = .ok (.aload_n 2, 1) := by decide +kernel
theorem dL_law_1934 : decode code 1934 = .ok (.invokevirtual 271, 3) := by decide +kernel
theorem dL_law_1937 : decode code 1937 = .ok (.if_icmp .eq 1544, 3) := by decide +kernel
theorem dL_law_1940 : decode code 1940 = .ok (.iconst 0, 1) := by decide +kernel
theorem dL_law_1941 : decode code 1941 = .ok (.ireturn, 1) := by decide +kernel
theorem dL_law_1942 : decode code 1942 = .ok (.aload_n 1, 1) := by decide +kernel
theorem dL_law_1943 : decode code 1943 = .ok (.invokevirtual 272, 3) := by decide +kernel
theorem dL_law_1946 : decode code 1946 = .ok (.aload_n 2, 1) := by decide +kernel
theorem dL_law_1947 : decode code 1947 = .ok (.invokevirtual 275, 3) := by decide +kernel
theorem dL_law_1950 : decode code 1950 = .ok (.if_icmp .eq 1531, 3) := by decide +kernel
theorem dL_law_1953 : decode code 1953 = .ok (.iconst 0, 1) := by decide +kernel
theorem dL_law_1954 : decode code 1954 = .ok (.ireturn, 1) := by decide +kernel
theorem dL_law_1955 : decode code 1955 = .ok (.aload_n 1, 1) := by decide +kernel
theorem dL_law_1956 : decode code 1956 = .ok (.aload_n 0, 1) := by decide +kernel
theorem dL_law_1957 : decode code 1957 = .ok (.iload 4, 2) := by decide +kernel
theorem dL_law_1959 : decode code 1959 = .ok (.iconst 1, 1) := by decide +kernel
theorem dL_law_1960 : decode code 1960 = .ok (.iadd, 1) := by decide +kernel
theorem dL_law_1961 : decode code 1961 = .ok (.iaload, 1) := by decide +kernel
theorem dL_law_1962 : decode code 1962 = .ok (.aload_n 3, 1) := by decide +kernel
theorem dL_law_1963 : decode code 1963 = .ok (.invokestatic 276, 3) := by decide +kernel
theorem dL_law_1966 : decode code 1966 = .ok (.istore 5, 2) := by decide +kernel
theorem dL_law_1968 : decode code 1968 = .ok (.aload_n 2, 1) := by decide +kernel
theorem dL_law_1969 : decode code 1969 = .ok (.aload_n 0, 1) := by decide +kernel
theorem dL_law_1970 : decode code 1970 = .ok (.iload 4, 2) := by decide +kernel
theorem dL_law_1972 : decode code 1972 = .ok (.iconst 1, 1) := by decide +kernel
theorem dL_law_1973 : decode code 1973 = .ok (.iadd, 1) := by decide +kernel
theorem dL_law_1974 : decode code 1974 = .ok (.iaload, 1) := by decide +kernel
theorem dL_law_1975 : decode code 1975 = .ok (.invokevirtual 278, 3) := by decide +kernel
theorem dL_law_1978 : decode code 1978 = .ok (.istore 6, 2) := by decide +kernel
theorem dL_law_1980 : decode code 1980 = .ok (.aload_n 2, 1) := by decide +kernel
theorem dL_law_1981 : decode code 1981 = .ok (.invokevirtual 166, 3) := by decide +kernel
theorem dL_law_1984 : decode code 1984 = .ok (.iload 5, 2) := by decide +kernel
theorem dL_law_1986 : decode code 1986 = .ok (.if_icmp .eq 5, 3) := by decide +kernel
theorem dL_law_1989 : decode code 1989 = .ok (.iconst 0, 1) := by decide +kernel
theorem dL_law_1990 : decode code 1990 = .ok (.ireturn, 1) := by decide +kernel
theorem dL_law_1991 : decode code 1991 = .ok (.iload 5, 2) := by decide +kernel
theorem dL_law_1993 : decode code 1993 = .ok (.ifCond .ne 15, 3) := by decide +kernel
theorem dL_law_1996 : decode code 1996 = .ok (.aload_n 3, 1) := by decide +kernel
theorem dL_law_1997 : decode code 1997 = .ok (.iconst 0, 1) := by decide +kernel
theorem dL_law_1998 : decode code 1998 = .ok (.laload, 1) := by decide +kernel
theorem dL_law_1999 : decode code 1999 = .ok (.iload 6, 2) := by decide +kernel
theorem dL_law_2001 : decode code 2001 = .ok (.i2l, 1) := by decide +kernel
theorem dL_law_2002 : decode code 2002 = .ok (.lcmp, 1) := by decide +kernel
theorem dL_law_2003 : decode code 2003 = .ok (.ifCond .eq 5, 3) := by decide +kernel
theorem dL_law_2006 : decode code 2006 = .ok (.iconst 0, 1) := by decide +kernel
theorem dL_law_2007 : decode code 2007 = .ok (.ireturn, 1) := by decide +kernel
theorem dL_law_2008 : decode code 2008 = .ok (.goto 1473, 3) := by decide +kernel
theorem dL_law_2011 : decode code 2011 = .ok (.aload_n 1, 1) := by decide +kernel
theorem dL_law_2012 : decode code 2012 = .ok (.aload_n 0, 1) := by decide +kernel
theorem dL_law_2013 : decode code 2013 = .ok (.iload 4, 2) := by decide +kernel
theorem dL_law_2015 : decode code 2015 = .ok (.iconst 1, 1) := by decide +kernel
theorem dL_law_2016 : decode code 2016 = .ok (.iadd, 1) := by decide +kernel
theorem dL_law_2017 : decode code 2017 = .ok (.iaload, 1) := by decide +kernel
theorem dL_law_2018 : decode code 2018 = .ok (.aload_n 0, 1) := by decide +kernel
theorem dL_law_2019 : decode code 2019 = .ok (.iload 4, 2) := by decide +kernel
theorem dL_law_2021 : decode code 2021 = .ok (.iconst 2, 1) := by decide +kernel
theorem dL_law_2022 : decode code 2022 = .ok (.iadd, 1) := by decide +kernel
theorem dL_law_2023 : decode code 2023 = .ok (.iaload, 1) := by decide +kernel
theorem dL_law_2024 : decode code 2024 = .ok (.aload_n 3, 1) := by decide +kernel
theorem dL_law_2025 : decode code 2025 = .ok (.invokestatic 279, 3) := by decide +kernel
theorem dL_law_2028 : decode code 2028 = .ok (.istore 5, 2) := by decide +kernel
theorem dL_law_2030 : decode code 2030 = .ok (.aload_n 2, 1) := by decide +kernel
theorem dL_law_2031 : decode code 2031 = .ok (.aload_n 0, 1) := by decide +kernel
theorem dL_law_2032 : decode code 2032 = .ok (.iload 4, 2) := by decide +kernel
theorem dL_law_2034 : decode code 2034 = .ok (.iconst 1, 1) := by decide +kernel
theorem dL_law_2035 : decode code 2035 = .ok (.iadd, 1) := by decide +kernel
theorem dL_law_2036 : decode code 2036 = .ok (.iaload, 1) := by decide +kernel
theorem dL_law_2037 : decode code 2037 = .ok (.aload_n 0, 1) := by decide +kernel
theorem dL_law_2038 : decode code 2038 = .ok (.iload 4, 2) := by decide +kernel
theorem dL_law_2040 : decode code 2040 = .ok (.iconst 2, 1) := by decide +kernel
theorem dL_law_2041 : decode code 2041 = .ok (.iadd, 1) := by decide +kernel
theorem dL_law_2042 : decode code 2042 = .ok (.iaload, 1) := by decide +kernel
theorem dL_law_2043 : decode code 2043 = .ok (.invokevirtual 281, 3) := by decide +kernel
theorem dL_law_2046 : decode code 2046 = .ok (.istore 6, 2) := by decide +kernel
theorem dL_law_2048 : decode code 2048 = .ok (.aload_n 2, 1) := by decide +kernel
theorem dL_law_2049 : decode code 2049 = .ok (.invokevirtual 166, 3) := by decide +kernel
theorem dL_law_2052 : decode code 2052 = .ok (.iload 5, 2) := by decide +kernel
theorem dL_law_2054 : decode code 2054 = .ok (.if_icmp .eq 5, 3) := by decide +kernel
theorem dL_law_2057 : decode code 2057 = .ok (.iconst 0, 1) := by decide +kernel
theorem dL_law_2058 : decode code 2058 = .ok (.ireturn, 1) := by decide +kernel
theorem dL_law_2059 : decode code 2059 = .ok (.iload 5, 2) := by decide +kernel
theorem dL_law_2061 : decode code 2061 = .ok (.ifCond .ne 15, 3) := by decide +kernel
theorem dL_law_2064 : decode code 2064 = .ok (.aload_n 3, 1) := by decide +kernel
theorem dL_law_2065 : decode code 2065 = .ok (.iconst 0, 1) := by decide +kernel
theorem dL_law_2066 : decode code 2066 = .ok (.laload, 1) := by decide +kernel
theorem dL_law_2067 : decode code 2067 = .ok (.iload 6, 2) := by decide +kernel
theorem dL_law_2069 : decode code 2069 = .ok (.i2l, 1) := by decide +kernel
theorem dL_law_2070 : decode code 2070 = .ok (.lcmp, 1) := by decide +kernel
theorem dL_law_2071 : decode code 2071 = .ok (.ifCond .eq 5, 3) := by decide +kernel
theorem dL_law_2074 : decode code 2074 = .ok (.iconst 0, 1) := by decide +kernel
theorem dL_law_2075 : decode code 2075 = .ok (.ireturn, 1) := by decide +kernel
theorem dL_law_2076 : decode code 2076 = .ok (.goto 1405, 3) := by decide +kernel
theorem dL_law_2079 : decode code 2079 = .ok (.aload_n 1, 1) := by decide +kernel
theorem dL_law_2080 : decode code 2080 = .ok (.invokevirtual 282, 3) := by decide +kernel
theorem dL_law_2083 : decode code 2083 = .ok (.aload_n 2, 1) := by decide +kernel
theorem dL_law_2084 : decode code 2084 = .ok (.invokevirtual 285, 3) := by decide +kernel
theorem dL_law_2087 : decode code 2087 = .ok (.if_icmp .eq 1394, 3) := by decide +kernel
theorem dL_law_2090 : decode code 2090 = .ok (.iconst 0, 1) := by decide +kernel
theorem dL_law_2091 : decode code 2091 = .ok (.ireturn, 1) := by decide +kernel
theorem dL_law_2092 : decode code 2092 = .ok (.aload_n 1, 1) := by decide +kernel
theorem dL_law_2093 : decode code 2093 = .ok (.aload_n 0, 1) := by decide +kernel
theorem dL_law_2094 : decode code 2094 = .ok (.iload 4, 2) := by decide +kernel
theorem dL_law_2096 : decode code 2096 = .ok (.iconst 1, 1) := by decide +kernel
theorem dL_law_2097 : decode code 2097 = .ok (.iadd, 1) := by decide +kernel
theorem dL_law_2098 : decode code 2098 = .ok (.iaload, 1) := by decide +kernel
theorem dL_law_2099 : decode code 2099 = .ok (.aload_n 3, 1) := by decide +kernel
theorem dL_law_2100 : decode code 2100 = .ok (.invokestatic 286, 3) := by decide +kernel
theorem dL_law_2103 : decode code 2103 = .ok (.istore 5, 2) := by decide +kernel
theorem dL_law_2105 : decode code 2105 = .ok (.aload_n 2, 1) := by decide +kernel
theorem dL_law_2106 : decode code 2106 = .ok (.aload_n 0, 1) := by decide +kernel
theorem dL_law_2107 : decode code 2107 = .ok (.iload 4, 2) := by decide +kernel
theorem dL_law_2109 : decode code 2109 = .ok (.iconst 1, 1) := by decide +kernel
theorem dL_law_2110 : decode code 2110 = .ok (.iadd, 1) := by decide +kernel
theorem dL_law_2111 : decode code 2111 = .ok (.iaload, 1) := by decide +kernel
theorem dL_law_2112 : decode code 2112 = .ok (.invokevirtual 288, 3) := by decide +kernel
theorem dL_law_2115 : decode code 2115 = .ok (.istore 6, 2) := by decide +kernel
theorem dL_law_2117 : decode code 2117 = .ok (.aload_n 2, 1) := by decide +kernel
theorem dL_law_2118 : decode code 2118 = .ok (.invokevirtual 166, 3) := by decide +kernel
theorem dL_law_2121 : decode code 2121 = .ok (.iload 5, 2) := by decide +kernel
theorem dL_law_2123 : decode code 2123 = .ok (.if_icmp .eq 5, 3) := by decide +kernel
theorem dL_law_2126 : decode code 2126 = .ok (.iconst 0, 1) := by decide +kernel
theorem dL_law_2127 : decode code 2127 = .ok (.ireturn, 1) := by decide +kernel
theorem dL_law_2128 : decode code 2128 = .ok (.iload 5, 2) := by decide +kernel
theorem dL_law_2130 : decode code 2130 = .ok (.ifCond .ne 15, 3) := by decide +kernel
theorem dL_law_2133 : decode code 2133 = .ok (.aload_n 3, 1) := by decide +kernel
theorem dL_law_2134 : decode code 2134 = .ok (.iconst 0, 1) := by decide +kernel
theorem dL_law_2135 : decode code 2135 = .ok (.laload, 1) := by decide +kernel
theorem dL_law_2136 : decode code 2136 = .ok (.iload 6, 2) := by decide +kernel
theorem dL_law_2138 : decode code 2138 = .ok (.i2l, 1) := by decide +kernel
theorem dL_law_2139 : decode code 2139 = .ok (.lcmp, 1) := by decide +kernel
theorem dL_law_2140 : decode code 2140 = .ok (.ifCond .eq 5, 3) := by decide +kernel
theorem dL_law_2143 : decode code 2143 = .ok (.iconst 0, 1) := by decide +kernel
theorem dL_law_2144 : decode code 2144 = .ok (.ireturn, 1) := by decide +kernel
theorem dL_law_2145 : decode code 2145 = .ok (.goto 1336, 3) := by decide +kernel
theorem dL_law_2148 : decode code 2148 = .ok (.aload_n 1, 1) := by decide +kernel
theorem dL_law_2149 : decode code 2149 = .ok (.aload_n 0, 1) := by decide +kernel
theorem dL_law_2150 : decode code 2150 = .ok (.iload 4, 2) := by decide +kernel
theorem dL_law_2152 : decode code 2152 = .ok (.iconst 1, 1) := by decide +kernel
theorem dL_law_2153 : decode code 2153 = .ok (.iadd, 1) := by decide +kernel
theorem dL_law_2154 : decode code 2154 = .ok (.iaload, 1) := by decide +kernel
theorem dL_law_2155 : decode code 2155 = .ok (.aload_n 3, 1) := by decide +kernel
theorem dL_law_2156 : decode code 2156 = .ok (.invokestatic 289, 3) := by decide +kernel
theorem dL_law_2159 : decode code 2159 = .ok (.istore 5, 2) := by decide +kernel
theorem dL_law_2161 : decode code 2161 = .ok (.aload_n 2, 1) := by decide +kernel
theorem dL_law_2162 : decode code 2162 = .ok (.aload_n 0, 1) := by decide +kernel
theorem dL_law_2163 : decode code 2163 = .ok (.iload 4, 2) := by decide +kernel
theorem dL_law_2165 : decode code 2165 = .ok (.iconst 1, 1) := by decide +kernel
theorem dL_law_2166 : decode code 2166 = .ok (.iadd, 1) := by decide +kernel
