theorem dL_law_1976 : decode cL_law 1976 = .ok (.iload_n 3, 1) := by decide +kernel
theorem dL_law_1977 : decode cL_law 1977 = .ok (.iconst 5, 1) := by decide +kernel
theorem dL_law_1978 : decode cL_law 1978 = .ok (.iadd, 1) := by decide +kernel
theorem dL_law_1979 : decode cL_law 1979 = .ok (.iaload, 1) := by decide +kernel
theorem dL_law_1980 : decode cL_law 1980 = .ok (.i2l, 1) := by decide +kernel
theorem dL_law_1981 : decode cL_law 1981 = .ok (.bipush 32, 2) := by decide +kernel
theorem dL_law_1983 : decode cL_law 1983 = .ok (.lshl, 1) := by decide +kernel
theorem dL_law_1984 : decode cL_law 1984 = .ok (.aload_n 0, 1) := by decide +kernel
theorem dL_law_1985 : decode cL_law 1985 = .ok (.iload_n 3, 1) := by decide +kernel
theorem dL_law_1986 : decode cL_law 1986 = .ok (.bipush 6, 2) := by decide +kernel
theorem dL_law_1988 : decode cL_law 1988 = .ok (.iadd, 1) := by decide +kernel
theorem dL_law_1989 : decode cL_law 1989 = .ok (.iaload, 1) := by decide +kernel
theorem dL_law_1990 : decode cL_law 1990 = .ok (.i2l, 1) := by decide +kernel
theorem dL_law_1991 : decode cL_law 1991 = .ok (.ldc2_w 57, 3) := by decide +kernel
theorem dL_law_1994 : decode cL_law 1994 = .ok (.land, 1) := by decide +kernel
theorem dL_law_1995 : decode cL_law 1995 = .ok (.lor, 1) := by decide +kernel
theorem dL_law_1996 : decode cL_law 1996 = .ok (.invokevirtual 158, 3) := by decide +kernel
theorem dL_law_1999 : decode cL_law 1999 = .ok (.if_icmp .eq 427, 3) := by decide +kernel
theorem dL_law_2002 : decode cL_law 2002 = .ok (.iconst 0, 1) := by decide +kernel
theorem dL_law_2003 : decode cL_law 2003 = .ok (.ireturn, 1) := by decide +kernel
theorem dL_law_2004 : decode cL_law 2004 = .ok (.aload_n 1, 1) := by decide +kernel
theorem dL_law_2005 : decode cL_law 2005 = .ok (.aload_n 0, 1) := by decide +kernel
theorem dL_law_2006 : decode cL_law 2006 = .ok (.iload_n 3, 1) := by decide +kernel
theorem dL_law_2007 : decode cL_law 2007 = .ok (.iconst 1, 1) := by decide +kernel
theorem dL_law_2008 : decode cL_law 2008 = .ok (.iadd, 1) := by decide +kernel
theorem dL_law_2009 : decode cL_law 2009 = .ok (.iaload, 1) := by decide +kernel
theorem dL_law_2010 : decode cL_law 2010 = .ok (.invokevirtual 159, 3) := by decide +kernel
theorem dL_law_2013 : decode cL_law 2013 = .ok (.aload_n 2, 1) := by decide +kernel
theorem dL_law_2014 : decode cL_law 2014 = .ok (.aload_n 0, 1) := by decide +kernel
theorem dL_law_2015 : decode cL_law 2015 = .ok (.iload_n 3, 1) := by decide +kernel
theorem dL_law_2016 : decode cL_law 2016 = .ok (.iconst 1, 1) := by decide +kernel
theorem dL_law_2017 : decode cL_law 2017 = .ok (.iadd, 1) := by decide +kernel
theorem dL_law_2018 : decode cL_law 2018 = .ok (.iaload, 1) := by decide +kernel
theorem dL_law_2019 : decode cL_law 2019 = .ok (.invokevirtual 162, 3) := by decide +kernel
theorem dL_law_2022 : decode cL_law 2022 = .ok (.if_icmp .eq 404, 3) := by decide +kernel
theorem dL_law_2025 : decode cL_law 2025 = .ok (.iconst 0, 1) := by decide +kernel
theorem dL_law_2026 : decode cL_law 2026 = .ok (.ireturn, 1) := by decide +kernel
theorem dL_law_2027 : decode cL_law 2027 = .ok (.aload_n 1, 1) := by decide +kernel
theorem dL_law_2028 : decode cL_law 2028 = .ok (.aload_n 0, 1) := by decide +kernel
theorem dL_law_2029 : decode cL_law 2029 = .ok (.iload_n 3, 1) := by decide +kernel
theorem dL_law_2030 : decode cL_law 2030 = .ok (.iconst 1, 1) := by decide +kernel
theorem dL_law_2031 : decode cL_law 2031 = .ok (.iadd, 1) := by decide +kernel
theorem dL_law_2032 : decode cL_law 2032 = .ok (.iaload, 1) := by decide +kernel
theorem dL_law_2033 : decode cL_law 2033 = .ok (.aload_n 0, 1) := by decide +kernel
theorem dL_law_2034 : decode cL_law 2034 = .ok (.iload_n 3, 1) := by decide +kernel
theorem dL_law_2035 : decode cL_law 2035 = .ok (.iconst 2, 1) := by decide +kernel
theorem dL_law_2036 : decode cL_law 2036 = .ok (.iadd, 1) := by decide +kernel
theorem dL_law_2037 : decode cL_law 2037 = .ok (.iaload, 1) := by decide +kernel
theorem dL_law_2038 : decode cL_law 2038 = .ok (.aload_n 0, 1) := by decide +kernel
theorem dL_law_2039 : decode cL_law 2039 = .ok (.iload_n 3, 1) := by decide +kernel
theorem dL_law_2040 : decode cL_law 2040 = .ok (.iconst 3, 1) := by decide +kernel
theorem dL_law_2041 : decode cL_law 2041 = .ok (.iadd, 1) := by decide +kernel
theorem dL_law_2042 : decode cL_law 2042 = .ok (.iaload, 1) := by decide +kernel
theorem dL_law_2043 : decode cL_law 2043 = .ok (.invokevirtual 163, 3) := by decide +kernel
theorem dL_law_2046 : decode cL_law 2046 = .ok (.aload_n 2, 1) := by decide +kernel
theorem dL_law_2047 : decode cL_law 2047 = .ok (.aload_n 0, 1) := by decide +kernel
theorem dL_law_2048 : decode cL_law 2048 = .ok (.iload_n 3, 1) := by decide +kernel
theorem dL_law_2049 : decode cL_law 2049 = .ok (.iconst 1, 1) := by decide +kernel
theorem dL_law_2050 : decode cL_law 2050 = .ok (.iadd, 1) := by decide +kernel
theorem dL_law_2051 : decode cL_law 2051 = .ok (.iaload, 1) := by decide +kernel
theorem dL_law_2052 : decode cL_law 2052 = .ok (.aload_n 0, 1) := by decide +kernel
theorem dL_law_2053 : decode cL_law 2053 = .ok (.iload_n 3, 1) := by decide +kernel
theorem dL_law_2054 : decode cL_law 2054 = .ok (.iconst 2, 1) := by decide +kernel
theorem dL_law_2055 : decode cL_law 2055 = .ok (.iadd, 1) := by decide +kernel
theorem dL_law_2056 : decode cL_law 2056 = .ok (.iaload, 1) := by decide +kernel
theorem dL_law_2057 : decode cL_law 2057 = .ok (.aload_n 0, 1) := by decide +kernel
theorem dL_law_2058 : decode cL_law 2058 = .ok (.iload_n 3, 1) := by decide +kernel
theorem dL_law_2059 : decode cL_law 2059 = .ok (.iconst 3, 1) := by decide +kernel
theorem dL_law_2060 : decode cL_law 2060 = .ok (.iadd, 1) := by decide +kernel
theorem dL_law_2061 : decode cL_law 2061 = .ok (.iaload, 1) := by decide +kernel
theorem dL_law_2062 : decode cL_law 2062 = .ok (.invokevirtual 166, 3) := by decide +kernel
theorem dL_law_2065 : decode cL_law 2065 = .ok (.if_icmp .eq 361, 3) := by decide +kernel
theorem dL_law_2068 : decode cL_law 2068 = .ok (.iconst 0, 1) := by decide +kernel
theorem dL_law_2069 : decode cL_law 2069 = .ok (.ireturn, 1) := by decide +kernel
theorem dL_law_2070 : decode cL_law 2070 = .ok (.aload_n 1, 1) := by decide +kernel
theorem dL_law_2071 : decode cL_law 2071 = .ok (.aload_n 0, 1) := by decide +kernel
theorem dL_law_2072 : decode cL_law 2072 = .ok (.iload_n 3, 1) := by decide +kernel
theorem dL_law_2073 : decode cL_law 2073 = .ok (.iconst 1, 1) := by decide +kernel
theorem dL_law_2074 : decode cL_law 2074 = .ok (.iadd, 1) := by decide +kernel
theorem dL_law_2075 : decode cL_law 2075 = .ok (.iaload, 1) := by decide +kernel
theorem dL_law_2076 : decode cL_law 2076 = .ok (.invokevirtual 167, 3) := by decide +kernel
theorem dL_law_2079 : decode cL_law 2079 = .ok (.aload_n 2, 1) := by decide +kernel
theorem dL_law_2080 : decode cL_law 2080 = .ok (.aload_n 0, 1) := by decide +kernel
theorem dL_law_2081 : decode cL_law 2081 = .ok (.iload_n 3, 1) := by decide +kernel
theorem dL_law_2082 : decode cL_law 2082 = .ok (.iconst 1, 1) := by decide +kernel
theorem dL_law_2083 : decode cL_law 2083 = .ok (.iadd, 1) := by decide +kernel
theorem dL_law_2084 : decode cL_law 2084 = .ok (.iaload, 1) := by decide +kernel
theorem dL_law_2085 : decode cL_law 2085 = .ok (.invokevirtual 170, 3) := by decide +kernel
theorem dL_law_2088 : decode cL_law 2088 = .ok (.if_icmp .eq 338, 3) := by decide +kernel
theorem dL_law_2091 : decode cL_law 2091 = .ok (.iconst 0, 1) := by decide +kernel
theorem dL_law_2092 : decode cL_law 2092 = .ok (.ireturn, 1) := by decide +kernel
theorem dL_law_2093 : decode cL_law 2093 = .ok (.aload_n 1, 1) := by decide +kernel
theorem dL_law_2094 : decode cL_law 2094 = .ok (.invokevirtual 171, 3) := by decide +kernel
theorem dL_law_2097 : decode cL_law 2097 = .ok (.aload_n 2, 1) := by decide +kernel
theorem dL_law_2098 : decode cL_law 2098 = .ok (.invokevirtual 175, 3) := by decide +kernel
theorem dL_law_2101 : decode cL_law 2101 = .ok (.if_icmp .eq 325, 3) := by decide +kernel
theorem dL_law_2104 : decode cL_law 2104 = .ok (.iconst 0, 1) := by decide +kernel
theorem dL_law_2105 : decode cL_law 2105 = .ok (.ireturn, 1) := by decide +kernel
theorem dL_law_2106 : decode cL_law 2106 = .ok (.aload_n 1, 1) := by decide +kernel
theorem dL_law_2107 : decode cL_law 2107 = .ok (.invokevirtual 176, 3) := by decide +kernel
theorem dL_law_2110 : decode cL_law 2110 = .ok (.aload_n 2, 1) := by decide +kernel
theorem dL_law_2111 : decode cL_law 2111 = .ok (.invokevirtual 179, 3) := by decide +kernel
theorem dL_law_2114 : decode cL_law 2114 = .ok (.if_icmp .eq 312, 3) := by decide +kernel
theorem dL_law_2117 : decode cL_law 2117 = .ok (.iconst 0, 1) := by decide +kernel
theorem dL_law_2118 : decode cL_law 2118 = .ok (.ireturn, 1) := by decide +kernel
theorem dL_law_2119 : decode cL_law 2119 = .ok (.aload_n 1, 1) := by decide +kernel
theorem dL_law_2120 : decode cL_law 2120 = .ok (.aload_n 0, 1) := by decide +kernel
theorem dL_law_2121 : decode cL_law 2121 = .ok (.iload_n 3, 1) := by decide +kernel
theorem dL_law_2122 : decode cL_law 2122 = .ok (.iconst 1, 1) := by decide +kernel
theorem dL_law_2123 : decode cL_law 2123 = .ok (.iadd, 1) := by decide +kernel
theorem dL_law_2124 : decode cL_law 2124 = .ok (.iaload, 1) := by decide +kernel
theorem dL_law_2125 : decode cL_law 2125 = .ok (.aload_n 0, 1) := by decide +kernel
theorem dL_law_2126 : decode cL_law 2126 = .ok (.iload_n 3, 1) := by decide +kernel
theorem dL_law_2127 : decode cL_law 2127 = .ok (.iconst 2, 1) := by decide +kernel
theorem dL_law_2128 : decode cL_law 2128 = .ok (.iadd, 1) := by decide +kernel
theorem dL_law_2129 : decode cL_law 2129 = .ok (.iaload, 1) := by decide +kernel
theorem dL_law_2130 : decode cL_law 2130 = .ok (.invokevirtual 180, 3) := by decide +kernel
theorem dL_law_2133 : decode cL_law 2133 = .ok (.aload_n 2, 1) := by decide +kernel
theorem dL_law_2134 : decode cL_law 2134 = .ok (.aload_n 0, 1) := by decide +kernel
theorem dL_law_2135 : decode cL_law 2135 = .ok (.iload_n 3, 1) := by decide +kernel
theorem dL_law_2136 : decode cL_law 2136 = .ok (.iconst 1, 1) := by decide +kernel
theorem dL_law_2137 : decode cL_law 2137 = .ok (.iadd, 1) := by decide +kernel
theorem dL_law_2138 : decode cL_law 2138 = .ok (.iaload, 1) := by decide +kernel
theorem dL_law_2139 : decode cL_law 2139 = .ok (.aload_n 0, 1) := by decide +kernel
theorem dL_law_2140 : decode cL_law 2140 = .ok (.iload_n 3, 1) := by decide +kernel
theorem dL_law_2141 : decode cL_law 2141 = .ok (.iconst 2, 1) := by decide +kernel
theorem dL_law_2142 : decode cL_law 2142 = .ok (.iadd, 1) := by decide +kernel
theorem dL_law_2143 : decode cL_law 2143 = .ok (.iaload, 1) := by decide +kernel
theorem dL_law_2144 : decode cL_law 2144 = .ok (.invokevirtual 183, 3) := by decide +kernel
theorem dL_law_2147 : decode cL_law 2147 = .ok (.if_icmp .eq 279, 3) := by decide +kernel
theorem dL_law_2150 : decode cL_law 2150 = .ok (.iconst 0, 1) := by decide +kernel
theorem dL_law_2151 : decode cL_law 2151 = .ok (.ireturn, 1) := by decide +kernel
theorem dL_law_2152 : decode cL_law 2152 = .ok (.aload_n 1, 1) := by decide +kernel
theorem dL_law_2153 : decode cL_law 2153 = .ok (.aload_n 0, 1) := by decide +kernel
theorem dL_law_2154 : decode cL_law 2154 = .ok (.iload_n 3, 1) := by decide +kernel
theorem dL_law_2155 : decode cL_law 2155 = .ok (.iconst 1, 1) := by decide +kernel
theorem dL_law_2156 : decode cL_law 2156 = .ok (.iadd, 1) := by decide +kernel
theorem dL_law_2157 : decode cL_law 2157 = .ok (.iaload, 1) := by decide +kernel
theorem dL_law_2158 : decode cL_law 2158 = .ok (.aload_n 0, 1) := by decide +kernel
theorem dL_law_2159 : decode cL_law 2159 = .ok (.iload_n 3, 1) := by decide +kernel
theorem dL_law_2160 : decode cL_law 2160 = .ok (.iconst 2, 1) := by decide +kernel
theorem dL_law_2161 : decode cL_law 2161 = .ok (.iadd, 1) := by decide +kernel
theorem dL_law_2162 : decode cL_law 2162 = .ok (.iaload, 1) := by decide +kernel
theorem dL_law_2163 : decode cL_law 2163 = .ok (.invokevirtual 184, 3) := by decide +kernel
theorem dL_law_2166 : decode cL_law 2166 = .ok (.aload_n 2, 1) := by decide +kernel
theorem dL_law_2167 : decode cL_law 2167 = .ok (.aload_n 0, 1) := by decide +kernel
theorem dL_law_2168 : decode cL_law 2168 = .ok (.iload_n 3, 1) := by decide +kernel
theorem dL_law_2169 : decode cL_law 2169 = .ok (.iconst 1, 1) := by decide +kernel
theorem dL_law_2170 : decode cL_law 2170 = .ok (.iadd, 1) := by decide +kernel
theorem dL_law_2171 : decode cL_law 2171 = .ok (.iaload, 1) := by decide +kernel
theorem dL_law_2172 : decode cL_law 2172 = .ok (.aload_n 0, 1) := by decide +kernel
theorem dL_law_2173 : decode cL_law 2173 = .ok (.iload_n 3, 1) := by decide +kernel
theorem dL_law_2174 : decode cL_law 2174 = .ok (.iconst 2, 1) := by decide +kernel
theorem dL_law_2175 : decode cL_law 2175 = .ok (.iadd, 1) := by decide +kernel
theorem dL_law_2176 : decode cL_law 2176 = .ok (.iaload, 1) := by decide +kernel
theorem dL_law_2177 : decode cL_law 2177 = .ok (.invokevirtual 187, 3) := by decide +kernel
theorem dL_law_2180 : decode cL_law 2180 = .ok (.if_icmp .eq 246, 3) := by decide +kernel
theorem dL_law_2183 : decode cL_law 2183 = .ok (.iconst 0, 1) := by decide +kernel
theorem dL_law_2184 : decode cL_law 2184 = .ok (.ireturn, 1) := by decide +kernel
theorem dL_law_2185 : decode cL_law 2185 = .ok (.aload_n 1, 1) := by decide +kernel
theorem dL_law_2186 : decode cL_law 2186 = .ok (.aload_n 0, 1) := by decide +kernel
theorem dL_law_2187 : decode cL_law 2187 = .ok (.iload_n 3, 1) := by decide +kernel
theorem dL_law_2188 : decode cL_law 2188 = .ok (.iconst 1, 1) := by decide +kernel
theorem dL_law_2189 : decode cL_law 2189 = .ok (.iadd, 1) := by decide +kernel
theorem dL_law_2190 : decode cL_law 2190 = .ok (.iaload, 1) := by decide +kernel
theorem dL_law_2191 : decode cL_law 2191 = .ok (.aload_n 0, 1) := by decide +kernel
theorem dL_law_2192 : decode cL_law 2192 = .ok (.iload_n 3, 1) := by decide +kernel
theorem dL_law_2193 : decode cL_law 2193 = .ok (.iconst 2, 1) := by decide +kernel
theorem dL_law_2194 : decode cL_law 2194 = .ok (.iadd, 1) := by decide +kernel
theorem dL_law_2195 : decode cL_law 2195 = .ok (.iaload, 1) := by decide +kernel
theorem dL_law_2196 : decode cL_law 2196 = .ok (.invokevirtual 188, 3) := by decide +kernel
theorem dL_law_2199 : decode cL_law 2199 = .ok (.aload_n 2, 1) := by decide +kernel
theorem dL_law_2200 : decode cL_law 2200 = .ok (.aload_n 0, 1) := by decide +kernel
theorem dL_law_2201 : decode cL_law 2201 = .ok (.iload_n 3, 1) := by decide +kernel
theorem dL_law_2202 : decode cL_law 2202 = .ok (.iconst 1, 1) := by decide +kernel
theorem dL_law_2203 : decode cL_law 2203 = .ok (.iadd, 1) := by decide +kernel
theorem dL_law_2204 : decode cL_law 2204 = .ok (.iaload, 1) := by decide +kernel
theorem dL_law_2205 : decode cL_law 2205 = .ok (.aload_n 0, 1) := by decide +kernel
theorem dL_law_2206 : decode cL_law 2206 = .ok (.iload_n 3, 1) := by decide +kernel
theorem dL_law_2207 : decode cL_law 2207 = .ok (.iconst 2, 1) := by decide +kernel
theorem dL_law_2208 : decode cL_law 2208 = .ok (.iadd, 1) := by decide +kernel
theorem dL_law_2209 : decode cL_law 2209 = .ok (.iaload, 1) := by decide +kernel
theorem dL_law_2210 : decode cL_law 2210 = .ok (.invokevirtual 191, 3) := by decide +kernel
theorem dL_law_2213 : decode cL_law 2213 = .ok (.if_icmp .eq 213, 3) := by decide +kernel
theorem dL_law_2216 : decode cL_law 2216 = .ok (.iconst 0, 1) := by decide +kernel
theorem dL_law_2217 : decode cL_law 2217 = .ok (.ireturn, 1) := by decide +kernel
theorem dL_law_2218 : decode cL_law 2218 = .ok (.aload_n 1, 1) := by decide +kernel
theorem dL_law_2219 : decode cL_law 2219 = .ok (.invokevirtual 192, 3) := by decide +kernel
theorem dL_law_2222 : decode cL_law 2222 = .ok (.aload_n 2, 1) := by decide +kernel
theorem dL_law_2223 : decode cL_law 2223 = .ok (.invokevirtual 195, 3) := by decide +kernel
theorem dL_law_2226 : decode cL_law 2226 = .ok (.if_icmp .eq 200, 3) := by decide +kernel
theorem dL_law_2229 : decode cL_law 2229 = .ok (.iconst 0, 1) := by decide +kernel
theorem dL_law_2230 : decode cL_law 2230 = .ok (.ireturn, 1) := by decide +kernel
theorem dL_law_2231 : decode cL_law 2231 = .ok (.aload_n 1, 1) := by decide +kernel
theorem dL_law_2232 : decode cL_law 2232 = .ok (.invokevirtual 196, 3) := by decide +kernel
theorem dL_law_2235 : decode cL_law 2235 = .ok (.aload_n 2, 1) := by decide +kernel
theorem dL_law_2236 : decode cL_law 2236 = .ok (.invokevirtual 199, 3) := by decide +kernel
theorem dL_law_2239 : decode cL_law 2239 = .ok (.if_icmp .eq 187, 3) := by decide +kernel
theorem dL_law_2242 : decode cL_law 2242 = .ok (.iconst 0, 1) := by decide +kernel
theorem dL_law_2243 : decode cL_law 2243 = .ok (.ireturn, 1) := by decide +kernel
theorem dL_law_2244 : decode cL_law 2244 = .ok (.aload_n 1, 1) := by decide +kernel
theorem dL_law_2245 : decode cL_law 2245 = .ok (.invokevirtual 200, 3) := by decide +kernel
theorem dL_law_2248 : decode cL_law 2248 = .ok (.aload_n 2, 1) := by decide +kernel
theorem dL_law_2249 : decode cL_law 2249 = .ok (.invokevirtual 203, 3) := by decide +kernel
theorem dL_law_2252 : decode cL_law 2252 = .ok (.if_icmp .eq 174, 3) := by decide +kernel
theorem dL_law_2255 : decode cL_law 2255 = .ok (.iconst 0, 1) := by decide +kernel
theorem dL_law_2256 : decode cL_law 2256 = .ok (.ireturn, 1) := by decide +kernel
theorem dL_law_2257 : decode cL_law 2257 = .ok (.aload_n 1, 1) := by decide +kernel
theorem dL_law_2258 : decode cL_law 2258 = .ok (.aload_n 0, 1) := by decide +kernel
theorem dL_law_2259 : decode cL_law 2259 = .ok (.iload_n 3, 1) := by decide +kernel
theorem dL_law_2260 : decode cL_law 2260 = .ok (.iconst 1, 1) := by decide +kernel
theorem dL_law_2261 : decode cL_law 2261 = .ok (.iadd, 1) := by decide +kernel
theorem dL_law_2262 : decode cL_law 2262 = .ok (.iaload, 1) := by decide +kernel
theorem dL_law_2263 : decode cL_law 2263 = .ok (.invokevirtual 204, 3) := by decide +kernel
theorem dL_law_2266 : decode cL_law 2266 = .ok (.aload_n 2, 1) := by decide +kernel
theorem dL_law_2267 : decode cL_law 2267 = .ok (.aload_n 0, 1) := by decide +kernel
theorem dL_law_2268 : decode cL_law 2268 = .ok (.iload_n 3, 1) := by decide +kernel
theorem dL_law_2269 : decode cL_law 2269 = .ok (.iconst 1, 1) := by decide +kernel
theorem dL_law_2270 : decode cL_law 2270 = .ok (.iadd, 1) := by decide +kernel
theorem dL_law_2271 : decode cL_law 2271 = .ok (.iaload, 1) := by decide +kernel
theorem dL_law_2272 : decode cL_law 2272 = .ok (.invokevirtual 207, 3) := by decide +kernel
theorem dL_law_2275 : decode cL_law 2275 = .ok (.if_icmp .eq 151, 3) := by decide +kernel
theorem dL_law_2278 : decode cL_law 2278 = .ok (.iconst 0, 1) := by decide +kernel
theorem dL_law_2279 : decode cL_law 2279 = .ok (.ireturn, 1) := by decide +kernel
theorem dL_law_2280 : decode cL_law 2280 = .ok (.aload_n 1, 1) := by decide +kernel
theorem dL_law_2281 : decode cL_law 2281 = .ok (.aload_n 0, 1) := by decide +kernel
theorem dL_law_2282 : decode cL_law 2282 = .ok (.iload_n 3, 1) := by decide +kernel
theorem dL_law_2283 : decode cL_law 2283 = .ok (.iconst 1, 1) := by decide +kernel
theorem dL_law_2284 : decode cL_law 2284 = .ok (.iadd, 1) := by decide +kernel
theorem dL_law_2285 : decode cL_law 2285 = .ok (.iaload, 1) := by decide +kernel
theorem dL_law_2286 : decode cL_law 2286 = .ok (.invokevirtual 208, 3) := by decide +kernel
theorem dL_law_2289 : decode cL_law 2289 = .ok (.aload_n 2, 1) := by decide +kernel
theorem dL_law_2290 : decode cL_law 2290 = .ok (.aload_n 0, 1) := by decide +kernel
theorem dL_law_2291 : decode cL_law 2291 = .ok (.iload_n 3, 1) := by decide +kernel
theorem dL_law_2292 : decode cL_law 2292 = .ok (.iconst 1, 1) := by decide +kernel
theorem dL_law_2293 : decode cL_law 2293 = .ok (.iadd, 1) := by decide +kernel
theorem dL_law_2294 : decode cL_law 2294 = .ok (.iaload, 1) := by decide +kernel
theorem dL_law_2295 : decode cL_law 2295 = .ok (.invokevirtual 211, 3) := by decide +kernel
theorem dL_law_2298 : decode cL_law 2298 = .ok (.if_icmp .eq 128, 3) := by decide +kernel
theorem dL_law_2301 : decode cL_law 2301 = .ok (.iconst 0, 1) := by decide +kernel
theorem dL_law_2302 : decode cL_law 2302 = .ok (.ireturn, 1) := by decide +kernel
theorem dL_law_2303 : decode cL_law 2303 = .ok (.aload_n 1, 1) := by decide +kernel
theorem dL_law_2304 : decode cL_law 2304 = .ok (.invokevirtual 212, 3) := by decide +kernel
theorem dL_law_2307 : decode cL_law 2307 = .ok (.aload_n 2, 1) := by decide +kernel
theorem dL_law_2308 : decode cL_law 2308 = .ok (.invokevirtual 216, 3) := by decide +kernel
theorem dL_law_2311 : decode cL_law 2311 = .ok (.lcmp, 1) := by decide +kernel
theorem dL_law_2312 : decode cL_law 2312 = .ok (.ifCond .eq 114, 3) := by decide +kernel
theorem dL_law_2315 : decode cL_law 2315 = .ok (.iconst 0, 1) := by decide +kernel
theorem dL_law_2316 : decode cL_law 2316 = .ok (.ireturn, 1) := by decide +kernel
theorem dL_law_2317 : decode cL_law 2317 = .ok (.aload_n 1, 1) := by decide +kernel
theorem dL_law_2318 : decode cL_law 2318 = .ok (.invokevirtual 217, 3) := by decide +kernel
theorem dL_law_2321 : decode cL_law 2321 = .ok (.aload_n 2, 1) := by decide +kernel
theorem dL_law_2322 : decode cL_law 2322 = .ok (.invokevirtual 220, 3) := by decide +kernel
theorem dL_law_2325 : decode cL_law 2325 = .ok (.if_icmp .eq 101, 3) := by decide +kernel
theorem dL_law_2328 : decode cL_law 2328 = .ok (.iconst 0, 1) := by decide +kernel
theorem dL_law_2329 : decode cL_law 2329 = .ok (.ireturn, 1) := by decide +kernel
theorem dL_law_2330 : decode cL_law 2330 = .ok (.aload_n 1, 1) := by decide +kernel
theorem dL_law_2331 : decode cL_law 2331 = .ok (.invokevirtual 221, 3) := by decide +kernel
theorem dL_law_2334 : decode cL_law 2334 = .ok (.aload_n 2, 1) := by decide +kernel
theorem dL_law_2335 : decode cL_law 2335 = .ok (.invokevirtual 224, 3) := by decide +kernel
theorem dL_law_2338 : decode cL_law 2338 = .ok (.if_icmp .eq 88, 3) := by decide +kernel
theorem dL_law_2341 : decode cL_law 2341 = .ok (.iconst 0, 1) := by decide +kernel
theorem dL_law_2342 : decode cL_law 2342 = .ok (.ireturn, 1) := by decide +kernel
theorem dL_law_2343 : decode cL_law 2343 = .ok (.aload_n 1, 1) := by decide +kernel
theorem dL_law_2344 : decode cL_law 2344 = .ok (.aload_n 0, 1) := by decide +kernel
theorem dL_law_2345 : decode cL_law 2345 = .ok (.iload_n 3, 1) := by decide +kernel
theorem dL_law_2346 : decode cL_law 2346 = .ok (.iconst 1, 1) := by decide +kernel
theorem dL_law_2347 : decode cL_law 2347 = .ok (.iadd, 1) := by decide +kernel
theorem dL_law_2348 : decode cL_law 2348 = .ok (.iaload, 1) := by decide +kernel
theorem dL_law_2349 : decode cL_law 2349 = .ok (.invokevirtual 225, 3) := by decide +kernel
theorem dL_law_2352 : decode cL_law 2352 = .ok (.aload_n 2, 1) := by decide +kernel
theorem dL_law_2353 : decode cL_law 2353 = .ok (.aload_n 0, 1) := by decide +kernel
theorem dL_law_2354 : decode cL_law 2354 = .ok (.iload_n 3, 1) := by decide +kernel
theorem dL_law_2355 : decode cL_law 2355 = .ok (.iconst 1, 1) := by decide +kernel
theorem dL_law_2356 : decode cL_law 2356 = .ok (.iadd, 1) := by decide +kernel
theorem dL_law_2357 : decode cL_law 2357 = .ok (.iaload, 1) := by decide +kernel
theorem dL_law_2358 : decode cL_law 2358 = .ok (.invokevirtual 228, 3) := by decide +kernel
theorem dL_law_2361 : decode cL_law 2361 = .ok (.if_icmp .eq 65, 3) := by decide +kernel
theorem dL_law_2364 : decode cL_law 2364 = .ok (.iconst 0, 1) := by decide +kernel
theorem dL_law_2365 : decode cL_law 2365 = .ok (.ireturn, 1) := by decide +kernel
theorem dL_law_2366 : decode cL_law 2366 = .ok (.aload_n 1, 1) := by decide +kernel
theorem dL_law_2367 : decode cL_law 2367 = .ok (.aload_n 0, 1) := by decide +kernel
theorem dL_law_2368 : decode cL_law 2368 = .ok (.iload_n 3, 1) := by decide +kernel
theorem dL_law_2369 : decode cL_law 2369 = .ok (.iconst 1, 1) := by decide +kernel
theorem dL_law_2370 : decode cL_law 2370 = .ok (.iadd, 1) := by decide +kernel
theorem dL_law_2371 : decode cL_law 2371 = .ok (.iaload, 1) := by decide +kernel
theorem dL_law_2372 : decode cL_law 2372 = .ok (.invokevirtual 229, 3) := by decide +kernel
theorem dL_law_2375 : decode cL_law 2375 = .ok (.aload_n 2, 1) := by decide +kernel
theorem dL_law_2376 : decode cL_law 2376 = .ok (.aload_n 0, 1) := by decide +kernel
theorem dL_law_2377 : decode cL_law 2377 = .ok (.iload_n 3, 1) := by decide +kernel
theorem dL_law_2378 : decode cL_law 2378 = .ok (.iconst 1, 1) := by decide +kernel
theorem dL_law_2379 : decode cL_law 2379 = .ok (.iadd, 1) := by decide +kernel
theorem dL_law_2380 : decode cL_law 2380 = .ok (.iaload, 1) := by decide +kernel
theorem dL_law_2381 : decode cL_law 2381 = .ok (.invokevirtual 232, 3) := by decide +kernel
theorem dL_law_2384 : decode cL_law 2384 = .ok (.if_icmp .eq 42, 3) := by decide +kernel
theorem dL_law_2387 : decode cL_law 2387 = .ok (.iconst 0, 1) := by decide +kernel
theorem dL_law_2388 : decode cL_law 2388 = .ok (.ireturn, 1) := by decide +kernel
theorem dL_law_2389 : decode cL_law 2389 = .ok (.aload_n 1, 1) := by decide +kernel
theorem dL_law_2390 : decode cL_law 2390 = .ok (.aload_n 0, 1) := by decide +kernel
theorem dL_law_2391 : decode cL_law 2391 = .ok (.iload_n 3, 1) := by decide +kernel
