theorem dL_law__2002 : decode cL_law_ 2002 = .ok (.iconst 2, 1) := by decide +kernel
theorem dL_law__2003 : decode cL_law_ 2003 = .ok (.iadd, 1) := by decide +kernel
theorem dL_law__2004 : decode cL_law_ 2004 = .ok (.iaload, 1) := by decide +kernel
theorem dL_law__2005 : decode cL_law_ 2005 = .ok (.aload_n 0, 1) := by decide +kernel
theorem dL_law__2006 : decode cL_law_ 2006 = .ok (.iload 4, 2) := by decide +kernel
theorem dL_law__2008 : decode cL_law_ 2008 = .ok (.iconst 3, 1) := by decide +kernel
theorem dL_law__2009 : decode cL_law_ 2009 = .ok (.iadd, 1) := by decide +kernel
theorem dL_law__2010 : decode cL_law_ 2010 = .ok (.iaload, 1) := by decide +kernel
theorem dL_law__2011 : decode cL_law_ 2011 = .ok (.aload_n 0, 1) := by decide +kernel
theorem dL_law__2012 : decode cL_law_ 2012 = .ok (.iload 4, 2) := by decide +kernel
theorem dL_law__2014 : decode cL_law_ 2014 = .ok (.iconst 4, 1) := by decide +kernel
theorem dL_law__2015 : decode cL_law_ 2015 = .ok (.iadd, 1) := by decide +kernel
theorem dL_law__2016 : decode cL_law_ 2016 = .ok (.iaload, 1) := by decide +kernel
theorem dL_law__2017 : decode cL_law_ 2017 = .ok (.invokevirtual 229, 3) := by decide +kernel
theorem dL_law__2020 : decode cL_law_ 2020 = .ok (.istore 6, 2) := by decide +kernel
theorem dL_law__2022 : decode cL_law_ 2022 = .ok (.aload_n 2, 1) := by decide +kernel
theorem dL_law__2023 : decode cL_law_ 2023 = .ok (.invokevirtual 116, 3) := by decide +kernel
theorem dL_law__2026 : decode cL_law_ 2026 = .ok (.iload 5, 2) := by decide +kernel
theorem dL_law__2028 : decode cL_law_ 2028 = .ok (.if_icmp .eq 5, 3) := by decide +kernel
theorem dL_law__2031 : decode cL_law_ 2031 = .ok (.iconst 0, 1) := by decide +kernel
theorem dL_law__2032 : decode cL_law_ 2032 = .ok (.ireturn, 1) := by decide +kernel
theorem dL_law__2033 : decode cL_law_ 2033 = .ok (.iload 5, 2) := by decide +kernel
theorem dL_law__2035 : decode cL_law_ 2035 = .ok (.ifCond .ne 15, 3) := by decide +kernel
theorem dL_law__2038 : decode cL_law_ 2038 = .ok (.aload_n 3, 1) := by decide +kernel
theorem dL_law__2039 : decode cL_law_ 2039 = .ok (.iconst 0, 1) := by decide +kernel
theorem dL_law__2040 : decode cL_law_ 2040 = .ok (.laload, 1) := by decide +kernel
theorem dL_law__2041 : decode cL_law_ 2041 = .ok (.iload 6, 2) := by decide +kernel
theorem dL_law__2043 : decode cL_law_ 2043 = .ok (.i2l, 1) := by decide +kernel
theorem dL_law__2044 : decode cL_law_ 2044 = .ok (.lcmp, 1) := by decide +kernel
theorem dL_law__2045 : decode cL_law_ 2045 = .ok (.ifCond .eq 5, 3) := by decide +kernel
theorem dL_law__2048 : decode cL_law_ 2048 = .ok (.iconst 0, 1) := by decide +kernel
theorem dL_law__2049 : decode cL_law_ 2049 = .ok (.ireturn, 1) := by decide +kernel
theorem dL_law__2050 : decode cL_law_ 2050 = .ok (.goto 197, 3) := by decide +kernel
theorem dL_law__2053 : decode cL_law_ 2053 = .ok (.aload_n 1, 1) := by decide +kernel
theorem dL_law__2054 : decode cL_law_ 2054 = .ok (.aload_n 0, 1) := by decide +kernel
theorem dL_law__2055 : decode cL_law_ 2055 = .ok (.iload 4, 2) := by decide +kernel
theorem dL_law__2057 : decode cL_law_ 2057 = .ok (.iconst 1, 1) := by decide +kernel
theorem dL_law__2058 : decode cL_law_ 2058 = .ok (.iadd, 1) := by decide +kernel
theorem dL_law__2059 : decode cL_law_ 2059 = .ok (.iaload, 1) := by decide +kernel
theorem dL_law__2060 : decode cL_law_ 2060 = .ok (.aload_n 0, 1) := by decide +kernel
theorem dL_law__2061 : decode cL_law_ 2061 = .ok (.iload 4, 2) := by decide +kernel
theorem dL_law__2063 : decode cL_law_ 2063 = .ok (.iconst 2, 1) := by decide +kernel
theorem dL_law__2064 : decode cL_law_ 2064 = .ok (.iadd, 1) := by decide +kernel
theorem dL_law__2065 : decode cL_law_ 2065 = .ok (.iaload, 1) := by decide +kernel
theorem dL_law__2066 : decode cL_law_ 2066 = .ok (.aload_n 0, 1) := by decide +kernel
theorem dL_law__2067 : decode cL_law_ 2067 = .ok (.iload 4, 2) := by decide +kernel
theorem dL_law__2069 : decode cL_law_ 2069 = .ok (.iconst 3, 1) := by decide +kernel
theorem dL_law__2070 : decode cL_law_ 2070 = .ok (.iadd, 1) := by decide +kernel
theorem dL_law__2071 : decode cL_law_ 2071 = .ok (.iaload, 1) := by decide +kernel
theorem dL_law__2072 : decode cL_law_ 2072 = .ok (.aload_n 0, 1) := by decide +kernel
theorem dL_law__2073 : decode cL_law_ 2073 = .ok (.iload 4, 2) := by decide +kernel
theorem dL_law__2075 : decode cL_law_ 2075 = .ok (.iconst 4, 1) := by decide +kernel
theorem dL_law__2076 : decode cL_law_ 2076 = .ok (.iadd, 1) := by decide +kernel
theorem dL_law__2077 : decode cL_law_ 2077 = .ok (.iaload, 1) := by decide +kernel
theorem dL_law__2078 : decode cL_law_ 2078 = .ok (.aload_n 0, 1) := by decide +kernel
theorem dL_law__2079 : decode cL_law_ 2079 = .ok (.iload 4, 2) := by decide +kernel
theorem dL_law__2081 : decode cL_law_ 2081 = .ok (.iconst 5, 1) := by decide +kernel
theorem dL_law__2082 : decode cL_law_ 2082 = .ok (.iadd, 1) := by decide +kernel
theorem dL_law__2083 : decode cL_law_ 2083 = .ok (.iaload, 1) := by decide +kernel
theorem dL_law__2084 : decode cL_law_ 2084 = .ok (.aload_n 0, 1) := by decide +kernel
theorem dL_law__2085 : decode cL_law_ 2085 = .ok (.iload 4, 2) := by decide +kernel
theorem dL_law__2087 : decode cL_law_ 2087 = .ok (.bipush 6, 2) := by decide +kernel
theorem dL_law__2089 : decode cL_law_ 2089 = .ok (.iadd, 1) := by decide +kernel
theorem dL_law__2090 : decode cL_law_ 2090 = .ok (.iaload, 1) := by decide +kernel
theorem dL_law__2091 : decode cL_law_ 2091 = .ok (.aload_n 3, 1) := by decide +kernel
theorem dL_law__2092 : decode cL_law_ 2092 = .ok (.invokestatic 230, 3) := by decide +kernel
theorem dL_law__2095 : decode cL_law_ 2095 = .ok (.istore 5, 2) := by decide +kernel
theorem dL_law__2097 : decode cL_law_ 2097 = .ok (.aload_n 2, 1) := by decide +kernel
theorem dL_law__2098 : decode cL_law_ 2098 = .ok (.aload_n 0, 1) := by decide +kernel
theorem dL_law__2099 : decode cL_law_ 2099 = .ok (.iload 4, 2) := by decide +kernel
theorem dL_law__2101 : decode cL_law_ 2101 = .ok (.iconst 1, 1) := by decide +kernel
theorem dL_law__2102 : decode cL_law_ 2102 = .ok (.iadd, 1) := by decide +kernel
theorem dL_law__2103 : decode cL_law_ 2103 = .ok (.iaload, 1) := by decide +kernel
theorem dL_law__2104 : decode cL_law_ 2104 = .ok (.aload_n 0, 1) := by decide +kernel
theorem dL_law__2105 : decode cL_law_ 2105 = .ok (.iload 4, 2) := by decide +kernel
theorem dL_law__2107 : decode cL_law_ 2107 = .ok (.iconst 2, 1) := by decide +kernel
theorem dL_law__2108 : decode cL_law_ 2108 = .ok (.iadd, 1) := by decide +kernel
theorem dL_law__2109 : decode cL_law_ 2109 = .ok (.iaload, 1) := by decide +kernel
theorem dL_law__2110 : decode cL_law_ 2110 = .ok (.aload_n 0, 1) := by decide +kernel
theorem dL_law__2111 : decode cL_law_ 2111 = .ok (.iload 4, 2) := by decide +kernel
theorem dL_law__2113 : decode cL_law_ 2113 = .ok (.iconst 3, 1) := by decide +kernel
theorem dL_law__2114 : decode cL_law_ 2114 = .ok (.iadd, 1) := by decide +kernel
theorem dL_law__2115 : decode cL_law_ 2115 = .ok (.iaload, 1) := by decide +kernel
theorem dL_law__2116 : decode cL_law_ 2116 = .ok (.aload_n 0, 1) := by decide +kernel
theorem dL_law__2117 : decode cL_law_ 2117 = .ok (.iload 4, 2) := by decide +kernel
theorem dL_law__2119 : decode cL_law_ 2119 = .ok (.iconst 4, 1) := by decide +kernel
theorem dL_law__2120 : decode cL_law_ 2120 = .ok (.iadd, 1) := by decide +kernel
theorem dL_law__2121 : decode cL_law_ 2121 = .ok (.iaload, 1) := by decide +kernel
theorem dL_law__2122 : decode cL_law_ 2122 = .ok (.aload_n 0, 1) := by decide +kernel
theorem dL_law__2123 : decode cL_law_ 2123 = .ok (.iload 4, 2) := by decide +kernel
theorem dL_law__2125 : decode cL_law_ 2125 = .ok (.iconst 5, 1) := by decide +kernel
theorem dL_law__2126 : decode cL_law_ 2126 = .ok (.iadd, 1) := by decide +kernel
theorem dL_law__2127 : decode cL_law_ 2127 = .ok (.iaload, 1) := by decide +kernel
theorem dL_law__2128 : decode cL_law_ 2128 = .ok (.aload_n 0, 1) := by decide +kernel
theorem dL_law__2129 : decode cL_law_ 2129 = .ok (.iload 4, 2) := by decide +kernel
theorem dL_law__2131 : decode cL_law_ 2131 = .ok (.bipush 6, 2) := by decide +kernel
theorem dL_law__2133 : decode cL_law_ 2133 = .ok (.iadd, 1) := by decide +kernel
theorem dL_law__2134 : decode cL_law_ 2134 = .ok (.iaload, 1) := by decide +kernel
theorem dL_law__2135 : decode cL_law_ 2135 = .ok (.invokevirtual 233, 3) := by decide +kernel
theorem dL_law__2138 : decode cL_law_ 2138 = .ok (.istore 6, 2) := by decide +kernel
theorem dL_law__2140 : decode cL_law_ 2140 = .ok (.aload_n 2, 1) := by decide +kernel
theorem dL_law__2141 : decode cL_law_ 2141 = .ok (.invokevirtual 116, 3) := by decide +kernel
theorem dL_law__2144 : decode cL_law_ 2144 = .ok (.iload 5, 2) := by decide +kernel
theorem dL_law__2146 : decode cL_law_ 2146 = .ok (.if_icmp .eq 5, 3) := by decide +kernel
theorem dL_law__2149 : decode cL_law_ 2149 = .ok (.iconst 0, 1) := by decide +kernel
theorem dL_law__2150 : decode cL_law_ 2150 = .ok (.ireturn, 1) := by decide +kernel
theorem dL_law__2151 : decode cL_law_ 2151 = .ok (.iload 5, 2) := by decide +kernel
theorem dL_law__2153 : decode cL_law_ 2153 = .ok (.ifCond .ne 15, 3) := by decide +kernel
theorem dL_law__2156 : decode cL_law_ 2156 = .ok (.aload_n 3, 1) := by decide +kernel
theorem dL_law__2157 : decode cL_law_ 2157 = .ok (.iconst 0, 1) := by decide +kernel
theorem dL_law__2158 : decode cL_law_ 2158 = .ok (.laload, 1) := by decide +kernel
theorem dL_law__2159 : decode cL_law_ 2159 = .ok (.iload 6, 2) := by decide +kernel
theorem dL_law__2161 : decode cL_law_ 2161 = .ok (.i2l, 1) := by decide +kernel
theorem dL_law__2162 : decode cL_law_ 2162 = .ok (.lcmp, 1) := by decide +kernel
theorem dL_law__2163 : decode cL_law_ 2163 = .ok (.ifCond .eq 5, 3) := by decide +kernel
theorem dL_law__2166 : decode cL_law_ 2166 = .ok (.iconst 0, 1) := by decide +kernel
theorem dL_law__2167 : decode cL_law_ 2167 = .ok (.ireturn, 1) := by decide +kernel
theorem dL_law__2168 : decode cL_law_ 2168 = .ok (.goto 79, 3) := by decide +kernel
theorem dL_law__2171 : decode cL_law_ 2171 = .ok (.aload_n 1, 1) := by decide +kernel
theorem dL_law__2172 : decode cL_law_ 2172 = .ok (.invokevirtual 234, 3) := by decide +kernel
theorem dL_law__2175 : decode cL_law_ 2175 = .ok (.aload_n 2, 1) := by decide +kernel
theorem dL_law__2176 : decode cL_law_ 2176 = .ok (.invokevirtual 237, 3) := by decide +kernel
theorem dL_law__2179 : decode cL_law_ 2179 = .ok (.if_icmp .eq 68, 3) := by decide +kernel
theorem dL_law__2182 : decode cL_law_ 2182 = .ok (.iconst 0, 1) := by decide +kernel
theorem dL_law__2183 : decode cL_law_ 2183 = .ok (.ireturn, 1) := by decide +kernel
theorem dL_law__2184 : decode cL_law_ 2184 = .ok (.aload_n 1, 1) := by decide +kernel
theorem dL_law__2185 : decode cL_law_ 2185 = .ok (.invokevirtual 238, 3) := by decide +kernel
theorem dL_law__2188 : decode cL_law_ 2188 = .ok (.aload_n 2, 1) := by decide +kernel
theorem dL_law__2189 : decode cL_law_ 2189 = .ok (.invokevirtual 241, 3) := by decide +kernel
theorem dL_law__2192 : decode cL_law_ 2192 = .ok (.if_icmp .eq 55, 3) := by decide +kernel
theorem dL_law__2195 : decode cL_law_ 2195 = .ok (.iconst 0, 1) := by decide +kernel
theorem dL_law__2196 : decode cL_law_ 2196 = .ok (.ireturn, 1) := by decide +kernel
theorem dL_law__2197 : decode cL_law_ 2197 = .ok (.aload_n 1, 1) := by decide +kernel
theorem dL_law__2198 : decode cL_law_ 2198 = .ok (.aload_n 0, 1) := by decide +kernel
theorem dL_law__2199 : decode cL_law_ 2199 = .ok (.iload 4, 2) := by decide +kernel
theorem dL_law__2201 : decode cL_law_ 2201 = .ok (.iconst 1, 1) := by decide +kernel
theorem dL_law__2202 : decode cL_law_ 2202 = .ok (.iadd, 1) := by decide +kernel
theorem dL_law__2203 : decode cL_law_ 2203 = .ok (.iaload, 1) := by decide +kernel
theorem dL_law__2204 : decode cL_law_ 2204 = .ok (.invokevirtual 242, 3) := by decide +kernel
theorem dL_law__2207 : decode cL_law_ 2207 = .ok (.aload_n 2, 1) := by decide +kernel
theorem dL_law__2208 : decode cL_law_ 2208 = .ok (.aload_n 0, 1) := by decide +kernel
theorem dL_law__2209 : decode cL_law_ 2209 = .ok (.iload 4, 2) := by decide +kernel
theorem dL_law__2211 : decode cL_law_ 2211 = .ok (.iconst 1, 1) := by decide +kernel
theorem dL_law__2212 : decode cL_law_ 2212 = .ok (.iadd, 1) := by decide +kernel
theorem dL_law__2213 : decode cL_law_ 2213 = .ok (.iaload, 1) := by decide +kernel
theorem dL_law__2214 : decode cL_law_ 2214 = .ok (.invokevirtual 245, 3) := by decide +kernel
theorem dL_law__2217 : decode cL_law_ 2217 = .ok (.if_icmp .eq 30, 3) := by decide +kernel
theorem dL_law__2220 : decode cL_law_ 2220 = .ok (.iconst 0, 1) := by decide +kernel
theorem dL_law__2221 : decode cL_law_ 2221 = .ok (.ireturn, 1) := by decide +kernel
theorem dL_law__2222 : decode cL_law_ 2222 = .ok (.aload_n 1, 1) := by decide +kernel
theorem dL_law__2223 : decode cL_law_ 2223 = .ok (.aload_n 0, 1) := by decide +kernel
theorem dL_law__2224 : decode cL_law_ 2224 = .ok (.iload 4, 2) := by decide +kernel
theorem dL_law__2226 : decode cL_law_ 2226 = .ok (.iconst 1, 1) := by decide +kernel
theorem dL_law__2227 : decode cL_law_ 2227 = .ok (.iadd, 1) := by decide +kernel
theorem dL_law__2228 : decode cL_law_ 2228 = .ok (.iaload, 1) := by decide +kernel
theorem dL_law__2229 : decode cL_law_ 2229 = .ok (.invokevirtual 246, 3) := by decide +kernel
theorem dL_law__2232 : decode cL_law_ 2232 = .ok (.aload_n 2, 1) := by decide +kernel
theorem dL_law__2233 : decode cL_law_ 2233 = .ok (.aload_n 0, 1) := by decide +kernel
theorem dL_law__2234 : decode cL_law_ 2234 = .ok (.iload 4, 2) := by decide +kernel
theorem dL_law__2236 : decode cL_law_ 2236 = .ok (.iconst 1, 1) := by decide +kernel
theorem dL_law__2237 : decode cL_law_ 2237 = .ok (.iadd, 1) := by decide +kernel
theorem dL_law__2238 : decode cL_law_ 2238 = .ok (.iaload, 1) := by decide +kernel
theorem dL_law__2239 : decode cL_law_ 2239 = .ok (.invokevirtual 249, 3) := by decide +kernel
theorem dL_law__2242 : decode cL_law_ 2242 = .ok (.if_icmp .eq 5, 3) := by decide +kernel
theorem dL_law__2245 : decode cL_law_ 2245 = .ok (.iconst 0, 1) := by decide +kernel
theorem dL_law__2246 : decode cL_law_ 2246 = .ok (.ireturn, 1) := by decide +kernel
theorem dL_law__2247 : decode cL_law_ 2247 = .ok (.iinc 4 7, 3) := by decide +kernel
theorem dL_law__2250 : decode cL_law_ 2250 = .ok (.goto (-2227), 3) := by decide +kernel
theorem dL_law__2253 : decode cL_law_ 2253 = .ok (.iconst 1, 1) := by decide +kernel
theorem dL_law__2254 : decode cL_law_ 2254 = .ok (.ireturn, 1) := by decide +kernel
