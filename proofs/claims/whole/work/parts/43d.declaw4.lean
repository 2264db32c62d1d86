theorem dL_law__2093 : decode cL_law_ 2093 = .ok (.invokevirtual 134, 3) := by decide +kernel
theorem dL_law__2096 : decode cL_law_ 2096 = .ok (.iload 5, 2) := by decide +kernel
theorem dL_law__2098 : decode cL_law_ 2098 = .ok (.if_icmp .eq 5, 3) := by decide +kernel
theorem dL_law__2101 : decode cL_law_ 2101 = .ok (.iconst 0, 1) := by decide +kernel
theorem dL_law__2102 : decode cL_law_ 2102 = .ok (.ireturn, 1) := by decide +kernel
theorem dL_law__2103 : decode cL_law_ 2103 = .ok (.iload 5, 2) := by decide +kernel
theorem dL_law__2105 : decode cL_law_ 2105 = .ok (.ifCond .ne 15, 3) := by decide +kernel
theorem dL_law__2108 : decode cL_law_ 2108 = .ok (.aload_n 3, 1) := by decide +kernel
theorem dL_law__2109 : decode cL_law_ 2109 = .ok (.iconst 0, 1) := by decide +kernel
theorem dL_law__2110 : decode cL_law_ 2110 = .ok (.laload, 1) := by decide +kernel
theorem dL_law__2111 : decode cL_law_ 2111 = .ok (.iload 6, 2) := by decide +kernel
theorem dL_law__2113 : decode cL_law_ 2113 = .ok (.i2l, 1) := by decide +kernel
theorem dL_law__2114 : decode cL_law_ 2114 = .ok (.lcmp, 1) := by decide +kernel
theorem dL_law__2115 : decode cL_law_ 2115 = .ok (.ifCond .eq 5, 3) := by decide +kernel
theorem dL_law__2118 : decode cL_law_ 2118 = .ok (.iconst 0, 1) := by decide +kernel
theorem dL_law__2119 : decode cL_law_ 2119 = .ok (.ireturn, 1) := by decide +kernel
theorem dL_law__2120 : decode cL_law_ 2120 = .ok (.goto 537, 3) := by decide +kernel
theorem dL_law__2123 : decode cL_law_ 2123 = .ok (.aload_n 1, 1) := by decide +kernel
theorem dL_law__2124 : decode cL_law_ 2124 = .ok (.aload_n 0, 1) := by decide +kernel
theorem dL_law__2125 : decode cL_law_ 2125 = .ok (.iload 4, 2) := by decide +kernel
theorem dL_law__2127 : decode cL_law_ 2127 = .ok (.iconst 1, 1) := by decide +kernel
theorem dL_law__2128 : decode cL_law_ 2128 = .ok (.iadd, 1) := by decide +kernel
theorem dL_law__2129 : decode cL_law_ 2129 = .ok (.iaload, 1) := by decide +kernel
theorem dL_law__2130 : decode cL_law_ 2130 = .ok (.aload_n 3, 1) := by decide +kernel
theorem dL_law__2131 : decode cL_law_ 2131 = .ok (.invokestatic 232, 3) := by decide +kernel
theorem dL_law__2134 : decode cL_law_ 2134 = .ok (.istore 5, 2) := by decide +kernel
theorem dL_law__2136 : decode cL_law_ 2136 = .ok (.aload_n 2, 1) := by decide +kernel
theorem dL_law__2137 : decode cL_law_ 2137 = .ok (.aload_n 0, 1) := by decide +kernel
theorem dL_law__2138 : decode cL_law_ 2138 = .ok (.iload 4, 2) := by decide +kernel
theorem dL_law__2140 : decode cL_law_ 2140 = .ok (.iconst 1, 1) := by decide +kernel
theorem dL_law__2141 : decode cL_law_ 2141 = .ok (.iadd, 1) := by decide +kernel
theorem dL_law__2142 : decode cL_law_ 2142 = .ok (.iaload, 1) := by decide +kernel
theorem dL_law__2143 : decode cL_law_ 2143 = .ok (.invokevirtual 234, 3) := by decide +kernel
theorem dL_law__2146 : decode cL_law_ 2146 = .ok (.istore 6, 2) := by decide +kernel
theorem dL_law__2148 : decode cL_law_ 2148 = .ok (.aload_n 2, 1) := by decide +kernel
theorem dL_law__2149 : decode cL_law_ 2149 = .ok (.invokevirtual 134, 3) := by decide +kernel
theorem dL_law__2152 : decode cL_law_ 2152 = .ok (.iload 5, 2) := by decide +kernel
theorem dL_law__2154 : decode cL_law_ 2154 = .ok (.if_icmp .eq 5, 3) := by decide +kernel
theorem dL_law__2157 : decode cL_law_ 2157 = .ok (.iconst 0, 1) := by decide +kernel
theorem dL_law__2158 : decode cL_law_ 2158 = .ok (.ireturn, 1) := by decide +kernel
theorem dL_law__2159 : decode cL_law_ 2159 = .ok (.iload 5, 2) := by decide +kernel
theorem dL_law__2161 : decode cL_law_ 2161 = .ok (.ifCond .ne 15, 3) := by decide +kernel
theorem dL_law__2164 : decode cL_law_ 2164 = .ok (.aload_n 3, 1) := by decide +kernel
theorem dL_law__2165 : decode cL_law_ 2165 = .ok (.iconst 0, 1) := by decide +kernel
theorem dL_law__2166 : decode cL_law_ 2166 = .ok (.laload, 1) := by decide +kernel
theorem dL_law__2167 : decode cL_law_ 2167 = .ok (.iload 6, 2) := by decide +kernel
theorem dL_law__2169 : decode cL_law_ 2169 = .ok (.i2l, 1) := by decide +kernel
theorem dL_law__2170 : decode cL_law_ 2170 = .ok (.lcmp, 1) := by decide +kernel
theorem dL_law__2171 : decode cL_law_ 2171 = .ok (.ifCond .eq 5, 3) := by decide +kernel
theorem dL_law__2174 : decode cL_law_ 2174 = .ok (.iconst 0, 1) := by decide +kernel
theorem dL_law__2175 : decode cL_law_ 2175 = .ok (.ireturn, 1) := by decide +kernel
theorem dL_law__2176 : decode cL_law_ 2176 = .ok (.goto 481, 3) := by decide +kernel
theorem dL_law__2179 : decode cL_law_ 2179 = .ok (.aload_n 1, 1) := by decide +kernel
theorem dL_law__2180 : decode cL_law_ 2180 = .ok (.aload_n 0, 1) := by decide +kernel
theorem dL_law__2181 : decode cL_law_ 2181 = .ok (.iload 4, 2) := by decide +kernel
theorem dL_law__2183 : decode cL_law_ 2183 = .ok (.iconst 1, 1) := by decide +kernel
theorem dL_law__2184 : decode cL_law_ 2184 = .ok (.iadd, 1) := by decide +kernel
theorem dL_law__2185 : decode cL_law_ 2185 = .ok (.iaload, 1) := by decide +kernel
theorem dL_law__2186 : decode cL_law_ 2186 = .ok (.aload_n 3, 1) := by decide +kernel
theorem dL_law__2187 : decode cL_law_ 2187 = .ok (.invokestatic 235, 3) := by decide +kernel
theorem dL_law__2190 : decode cL_law_ 2190 = .ok (.istore 5, 2) := by decide +kernel
theorem dL_law__2192 : decode cL_law_ 2192 = .ok (.aload_n 2, 1) := by decide +kernel
theorem dL_law__2193 : decode cL_law_ 2193 = .ok (.aload_n 0, 1) := by decide +kernel
theorem dL_law__2194 : decode cL_law_ 2194 = .ok (.iload 4, 2) := by decide +kernel
theorem dL_law__2196 : decode cL_law_ 2196 = .ok (.iconst 1, 1) := by decide +kernel
theorem dL_law__2197 : decode cL_law_ 2197 = .ok (.iadd, 1) := by decide +kernel
theorem dL_law__2198 : decode cL_law_ 2198 = .ok (.iaload, 1) := by decide +kernel
theorem dL_law__2199 : decode cL_law_ 2199 = .ok (.invokevirtual 237, 3) := by decide +kernel
theorem dL_law__2202 : decode cL_law_ 2202 = .ok (.istore 6, 2) := by decide +kernel
theorem dL_law__2204 : decode cL_law_ 2204 = .ok (.aload_n 2, 1) := by decide +kernel
theorem dL_law__2205 : decode cL_law_ 2205 = .ok (.invokevirtual 134, 3) := by decide +kernel
theorem dL_law__2208 : decode cL_law_ 2208 = .ok (.iload 5, 2) := by decide +kernel
theorem dL_law__2210 : decode cL_law_ 2210 = .ok (.if_icmp .eq 5, 3) := by decide +kernel
theorem dL_law__2213 : decode cL_law_ 2213 = .ok (.iconst 0, 1) := by decide +kernel
theorem dL_law__2214 : decode cL_law_ 2214 = .ok (.ireturn, 1) := by decide +kernel
theorem dL_law__2215 : decode cL_law_ 2215 = .ok (.iload 5, 2) := by decide +kernel
theorem dL_law__2217 : decode cL_law_ 2217 = .ok (.ifCond .ne 15, 3) := by decide +kernel
theorem dL_law__2220 : decode cL_law_ 2220 = .ok (.aload_n 3, 1) := by decide +kernel
theorem dL_law__2221 : decode cL_law_ 2221 = .ok (.iconst 0, 1) := by decide +kernel
theorem dL_law__2222 : decode cL_law_ 2222 = .ok (.laload, 1) := by decide +kernel
theorem dL_law__2223 : decode cL_law_ 2223 = .ok (.iload 6, 2) := by decide +kernel
theorem dL_law__2225 : decode cL_law_ 2225 = .ok (.i2l, 1) := by decide +kernel
theorem dL_law__2226 : decode cL_law_ 2226 = .ok (.lcmp, 1) := by decide +kernel
theorem dL_law__2227 : decode cL_law_ 2227 = .ok (.ifCond .eq 5, 3) := by decide +kernel
theorem dL_law__2230 : decode cL_law_ 2230 = .ok (.iconst 0, 1) := by decide +kernel
theorem dL_law__2231 : decode cL_law_ 2231 = .ok (.ireturn, 1) := by decide +kernel
theorem dL_law__2232 : decode cL_law_ 2232 = .ok (.goto 425, 3) := by decide +kernel
theorem dL_law__2235 : decode cL_law_ 2235 = .ok (.aload_n 1, 1) := by decide +kernel
theorem dL_law__2236 : decode cL_law_ 2236 = .ok (.aload_n 0, 1) := by decide +kernel
theorem dL_law__2237 : decode cL_law_ 2237 = .ok (.iload 4, 2) := by decide +kernel
theorem dL_law__2239 : decode cL_law_ 2239 = .ok (.iconst 1, 1) := by decide +kernel
theorem dL_law__2240 : decode cL_law_ 2240 = .ok (.iadd, 1) := by decide +kernel
theorem dL_law__2241 : decode cL_law_ 2241 = .ok (.iaload, 1) := by decide +kernel
theorem dL_law__2242 : decode cL_law_ 2242 = .ok (.aload_n 0, 1) := by decide +kernel
theorem dL_law__2243 : decode cL_law_ 2243 = .ok (.iload 4, 2) := by decide +kernel
theorem dL_law__2245 : decode cL_law_ 2245 = .ok (.iconst 2, 1) := by decide +kernel
theorem dL_law__2246 : decode cL_law_ 2246 = .ok (.iadd, 1) := by decide +kernel
theorem dL_law__2247 : decode cL_law_ 2247 = .ok (.iaload, 1) := by decide +kernel
theorem dL_law__2248 : decode cL_law_ 2248 = .ok (.aload_n 3, 1) := by decide +kernel
theorem dL_law__2249 : decode cL_law_ 2249 = .ok (.invokestatic 238, 3) := by decide +kernel
theorem dL_law__2252 : decode cL_law_ 2252 = .ok (.istore 5, 2) := by decide +kernel
theorem dL_law__2254 : decode cL_law_ 2254 = .ok (.aload_n 2, 1) := by decide +kernel
theorem dL_law__2255 : decode cL_law_ 2255 = .ok (.aload_n 0, 1) := by decide +kernel
theorem dL_law__2256 : decode cL_law_ 2256 = .ok (.iload 4, 2) := by decide +kernel
theorem dL_law__2258 : decode cL_law_ 2258 = .ok (.iconst 1, 1) := by decide +kernel
theorem dL_law__2259 : decode cL_law_ 2259 = .ok (.iadd, 1) := by decide +kernel
theorem dL_law__2260 : decode cL_law_ 2260 = .ok (.iaload, 1) := by decide +kernel
theorem dL_law__2261 : decode cL_law_ 2261 = .ok (.aload_n 0, 1) := by decide +kernel
theorem dL_law__2262 : decode cL_law_ 2262 = .ok (.iload 4, 2) := by decide +kernel
theorem dL_law__2264 : decode cL_law_ 2264 = .ok (.iconst 2, 1) := by decide +kernel
theorem dL_law__2265 : decode cL_law_ 2265 = .ok (.iadd, 1) := by decide +kernel
theorem dL_law__2266 : decode cL_law_ 2266 = .ok (.iaload, 1) := by decide +kernel
theorem dL_law__2267 : decode cL_law_ 2267 = .ok (.invokevirtual 240, 3) := by decide +kernel
theorem dL_law__2270 : decode cL_law_ 2270 = .ok (.istore 6, 2) := by decide +kernel
theorem dL_law__2272 : decode cL_law_ 2272 = .ok (.aload_n 2, 1) := by decide +kernel
theorem dL_law__2273 : decode cL_law_ 2273 = .ok (.invokevirtual 134, 3) := by decide +kernel
theorem dL_law__2276 : decode cL_law_ 2276 = .ok (.iload 5, 2) := by decide +kernel
theorem dL_law__2278 : decode cL_law_ 2278 = .ok (.if_icmp .eq 5, 3) := by decide +kernel
theorem dL_law__2281 : decode cL_law_ 2281 = .ok (.iconst 0, 1) := by decide +kernel
theorem dL_law__2282 : decode cL_law_ 2282 = .ok (.ireturn, 1) := by decide +kernel
theorem dL_law__2283 : decode cL_law_ 2283 = .ok (.iload 5, 2) := by decide +kernel
theorem dL_law__2285 : decode cL_law_ 2285 = .ok (.ifCond .ne 15, 3) := by decide +kernel
theorem dL_law__2288 : decode cL_law_ 2288 = .ok (.aload_n 3, 1) := by decide +kernel
theorem dL_law__2289 : decode cL_law_ 2289 = .ok (.iconst 0, 1) := by decide +kernel
theorem dL_law__2290 : decode cL_law_ 2290 = .ok (.laload, 1) := by decide +kernel
theorem dL_law__2291 : decode cL_law_ 2291 = .ok (.iload 6, 2) := by decide +kernel
theorem dL_law__2293 : decode cL_law_ 2293 = .ok (.i2l, 1) := by decide +kernel
theorem dL_law__2294 : decode cL_law_ 2294 = .ok (.lcmp, 1) := by decide +kernel
theorem dL_law__2295 : decode cL_law_ 2295 = .ok (.ifCond .eq 5, 3) := by decide +kernel
theorem dL_law__2298 : decode cL_law_ 2298 = .ok (.iconst 0, 1) := by decide +kernel
theorem dL_law__2299 : decode cL_law_ 2299 = .ok (.ireturn, 1) := by decide +kernel
theorem dL_law__2300 : decode cL_law_ 2300 = .ok (.goto 357, 3) := by decide +kernel
theorem dL_law__2303 : decode cL_law_ 2303 = .ok (.aload_n 1, 1) := by decide +kernel
theorem dL_law__2304 : decode cL_law_ 2304 = .ok (.aload_n 0, 1) := by decide +kernel
theorem dL_law__2305 : decode cL_law_ 2305 = .ok (.iload 4, 2) := by decide +kernel
theorem dL_law__2307 : decode cL_law_ 2307 = .ok (.iconst 1, 1) := by decide +kernel
theorem dL_law__2308 : decode cL_law_ 2308 = .ok (.iadd, 1) := by decide +kernel
theorem dL_law__2309 : decode cL_law_ 2309 = .ok (.iaload, 1) := by decide +kernel
theorem dL_law__2310 : decode cL_law_ 2310 = .ok (.aload_n 0, 1) := by decide +kernel
theorem dL_law__2311 : decode cL_law_ 2311 = .ok (.iload 4, 2) := by decide +kernel
theorem dL_law__2313 : decode cL_law_ 2313 = .ok (.iconst 2, 1) := by decide +kernel
theorem dL_law__2314 : decode cL_law_ 2314 = .ok (.iadd, 1) := by decide +kernel
theorem dL_law__2315 : decode cL_law_ 2315 = .ok (.iaload, 1) := by decide +kernel
theorem dL_law__2316 : decode cL_law_ 2316 = .ok (.aload_n 3, 1) := by decide +kernel
theorem dL_law__2317 : decode cL_law_ 2317 = .ok (.invokestatic 241, 3) := by decide +kernel
theorem dL_law__2320 : decode cL_law_ 2320 = .ok (.istore 5, 2) := by decide +kernel
theorem dL_law__2322 : decode cL_law_ 2322 = .ok (.aload_n 2, 1) := by decide +kernel
theorem dL_law__2323 : decode cL_law_ 2323 = .ok (.aload_n 0, 1) := by decide +kernel
theorem dL_law__2324 : decode cL_law_ 2324 = .ok (.iload 4, 2) := by decide +kernel
theorem dL_law__2326 : decode cL_law_ 2326 = .ok (.iconst 1, 1) := by decide +kernel
theorem dL_law__2327 : decode cL_law_ 2327 = .ok (.iadd, 1) := by decide +kernel
theorem dL_law__2328 : decode cL_law_ 2328 = .ok (.iaload, 1) := by decide +kernel
theorem dL_law__2329 : decode cL_law_ 2329 = .ok (.aload_n 0, 1) := by decide +kernel
theorem dL_law__2330 : decode cL_law_ 2330 = .ok (.iload 4, 2) := by decide +kernel
theorem dL_law__2332 : decode cL_law_ 2332 = .ok (.iconst 2, 1) := by decide +kernel
theorem dL_law__2333 : decode cL_law_ 2333 = .ok (.iadd, 1) := by decide +kernel
theorem dL_law__2334 : decode cL_law_ 2334 = .ok (.iaload, 1) := by decide +kernel
theorem dL_law__2335 : decode cL_law_ 2335 = .ok (.invokevirtual 243, 3) := by decide +kernel
theorem dL_law__2338 : decode cL_law_ 2338 = .ok (.istore 6, 2) := by decide +kernel
theorem dL_law__2340 : decode cL_law_ 2340 = .ok (.aload_n 2, 1) := by decide +kernel
theorem dL_law__2341 : decode cL_law_ 2341 = .ok (.invokevirtual 134, 3) := by decide +kernel
theorem dL_law__2344 : decode cL_law_ 2344 = .ok (.iload 5, 2) := by decide +kernel
theorem dL_law__2346 : decode cL_law_ 2346 = .ok (.if_icmp .eq 5, 3) := by decide +kernel
theorem dL_law__2349 : decode cL_law_ 2349 = .ok (.iconst 0, 1) := by decide +kernel
theorem dL_law__2350 : decode cL_law_ 2350 = .ok (.ireturn, 1) := by decide +kernel
theorem dL_law__2351 : decode cL_law_ 2351 = .ok (.iload 5, 2) := by decide +kernel
theorem dL_law__2353 : decode cL_law_ 2353 = .ok (.ifCond .ne 15, 3) := by decide +kernel
theorem dL_law__2356 : decode cL_law_ 2356 = .ok (.aload_n 3, 1) := by decide +kernel
theorem dL_law__2357 : decode cL_law_ 2357 = .ok (.iconst 0, 1) := by decide +kernel
theorem dL_law__2358 : decode cL_law_ 2358 = .ok (.laload, 1) := by decide +kernel
theorem dL_law__2359 : decode cL_law_ 2359 = .ok (.iload 6, 2) := by decide +kernel
theorem dL_law__2361 : decode cL_law_ 2361 = .ok (.i2l, 1) := by decide +kernel
theorem dL_law__2362 : decode cL_law_ 2362 = .ok (.lcmp, 1) := by decide +kernel
theorem dL_law__2363 : decode cL_law_ 2363 = .ok (.ifCond .eq 5, 3) := by decide +kernel
theorem dL_law__2366 : decode cL_law_ 2366 = .ok (.iconst 0, 1) := by decide +kernel
theorem dL_law__2367 : decode cL_law_ 2367 = .ok (.ireturn, 1) := by decide +kernel
theorem dL_law__2368 : decode cL_law_ 2368 = .ok (.goto 289, 3) := by decide +kernel
theorem dL_law__2371 : decode cL_law_ 2371 = .ok (.aload_n 1, 1) := by decide +kernel
theorem dL_law__2372 : decode cL_law_ 2372 = .ok (.aload_n 0, 1) := by decide +kernel
theorem dL_law__2373 : decode cL_law_ 2373 = .ok (.iload 4, 2) := by decide +kernel
theorem dL_law__2375 : decode cL_law_ 2375 = .ok (.iconst 1, 1) := by decide +kernel
theorem dL_law__2376 : decode cL_law_ 2376 = .ok (.iadd, 1) := by decide +kernel
theorem dL_law__2377 : decode cL_law_ 2377 = .ok (.iaload, 1) := by decide +kernel
theorem dL_law__2378 : decode cL_law_ 2378 = .ok (.aload_n 0, 1) := by decide +kernel
theorem dL_law__2379 : decode cL_law_ 2379 = .ok (.iload 4, 2) := by decide +kernel
theorem dL_law__2381 : decode cL_law_ 2381 = .ok (.iconst 2, 1) := by decide +kernel
theorem dL_law__2382 : decode cL_law_ 2382 = .ok (.iadd, 1) := by decide +kernel
theorem dL_law__2383 : decode cL_law_ 2383 = .ok (.iaload, 1) := by decide +kernel
theorem dL_law__2384 : decode cL_law_ 2384 = .ok (.aload_n 0, 1) := by decide +kernel
theorem dL_law__2385 : decode cL_law_ 2385 = .ok (.iload 4, 2) := by decide +kernel
theorem dL_law__2387 : decode cL_law_ 2387 = .ok (.iconst 3, 1) := by decide +kernel
theorem dL_law__2388 : decode cL_law_ 2388 = .ok (.iadd, 1) := by decide +kernel
theorem dL_law__2389 : decode cL_law_ 2389 = .ok (.iaload, 1) := by decide +kernel
theorem dL_law__2390 : decode cL_law_ 2390 = .ok (.aload_n 0, 1) := by decide +kernel
theorem dL_law__2391 : decode cL_law_ 2391 = .ok (.iload 4, 2) := by decide +kernel
theorem dL_law__2393 : decode cL_law_ 2393 = .ok (.iconst 4, 1) := by decide +kernel
theorem dL_law__2394 : decode cL_law_ 2394 = .ok (.iadd, 1) := by decide +kernel
theorem dL_law__2395 : decode cL_law_ 2395 = .ok (.iaload, 1) := by decide +kernel
theorem dL_law__2396 : decode cL_law_ 2396 = .ok (.aload_n 3, 1) := by decide +kernel
theorem dL_law__2397 : decode cL_law_ 2397 = .ok (.invokestatic 244, 3) := by decide +kernel
theorem dL_law__2400 : decode cL_law_ 2400 = .ok (.istore 5, 2) := by decide +kernel
theorem dL_law__2402 : decode cL_law_ 2402 = .ok (.aload_n 2, 1) := by decide +kernel
theorem dL_law__2403 : decode cL_law_ 2403 = .ok (.aload_n 0, 1) := by decide +kernel
theorem dL_law__2404 : decode cL_law_ 2404 = .ok (.iload 4, 2) := by decide +kernel
theorem dL_law__2406 : decode cL_law_ 2406 = .ok (.iconst 1, 1) := by decide +kernel
theorem dL_law__2407 : decode cL_law_ 2407 = .ok (.iadd, 1) := by decide +kernel
theorem dL_law__2408 : decode cL_law_ 2408 = .ok (.iaload, 1) := by decide +kernel
theorem dL_law__2409 : decode cL_law_ 2409 = .ok (.aload_n 0, 1) := by decide +kernel
theorem dL_law__2410 : decode cL_law_ 2410 = .ok (.iload 4, 2) := by decide +kernel
theorem dL_law__2412 : decode cL_law_ 2412 = .ok (.iconst 2, 1) := by decide +kernel
theorem dL_law__2413 : decode cL_law_ 2413 = .ok (.iadd, 1) := by decide +kernel
theorem dL_law__2414 : decode cL_law_ 2414 = .ok (.iaload, 1) := by decide +kernel
theorem dL_law__2415 : decode cL_law_ 2415 = .ok (.aload_n 0, 1) := by decide +kernel
theorem dL_law__2416 : decode cL_law_ 2416 = .ok (.iload 4, 2) := by decide +kernel
theorem dL_law__2418 : decode cL_law_ 2418 = .ok (.iconst 3, 1) := by decide +kernel
theorem dL_law__2419 : decode cL_law_ 2419 = .ok (.iadd, 1) := by decide +kernel
theorem dL_law__2420 : decode cL_law_ 2420 = .ok (.iaload, 1) := by decide +kernel
theorem dL_law__2421 : decode cL_law_ 2421 = .ok (.aload_n 0, 1) := by decide +kernel
theorem dL_law__2422 : decode cL_law_ 2422 = .ok (.iload 4, 2) := by decide +kernel
theorem dL_law__2424 : decode cL_law_ 2424 = .ok (.iconst 4, 1) := by decide +kernel
theorem dL_law__2425 : decode cL_law_ 2425 = .ok (.iadd, 1) := by decide +kernel
theorem dL_law__2426 : decode cL_law_ 2426 = .ok (.iaload, 1) := by decide +kernel
theorem dL_law__2427 : decode cL_law_ 2427 = .ok (.invokevirtual 246, 3) := by decide +kernel
theorem dL_law__2430 : decode cL_law_ 2430 = .ok (.istore 6, 2) := by decide +kernel
theorem dL_law__2432 : decode cL_law_ 2432 = .ok (.aload_n 2, 1) := by decide +kernel
theorem dL_law__2433 : decode cL_law_ 2433 = .ok (.invokevirtual 134, 3) := by decide +kernel
theorem dL_law__2436 : decode cL_law_ 2436 = .ok (.iload 5, 2) := by decide +kernel
theorem dL_law__2438 : decode cL_law_ 2438 = .ok (.if_icmp .eq 5, 3) := by decide +kernel
theorem dL_law__2441 : decode cL_law_ 2441 = .ok (.iconst 0, 1) := by decide +kernel
theorem dL_law__2442 : decode cL_law_ 2442 = .ok (.ireturn, 1) := by decide +kernel
theorem dL_law__2443 : decode cL_law_ 2443 = .ok (.iload 5, 2) := by decide +kernel
theorem dL_law__2445 : decode cL_law_ 2445 = .ok (.ifCond .ne 15, 3) := by decide +kernel
theorem dL_law__2448 : decode cL_law_ 2448 = .ok (.aload_n 3, 1) := by decide +kernel
theorem dL_law__2449 : decode cL_law_ 2449 = .ok (.iconst 0, 1) := by decide +kernel
theorem dL_law__2450 : decode cL_law_ 2450 = .ok (.laload, 1) := by decide +kernel
theorem dL_law__2451 : decode cL_law_ 2451 = .ok (.iload 6, 2) := by decide +kernel
theorem dL_law__2453 : decode cL_law_ 2453 = .ok (.i2l, 1) := by decide +kernel
theorem dL_law__2454 : decode cL_law_ 2454 = .ok (.lcmp, 1) := by decide +kernel
theorem dL_law__2455 : decode cL_law_ 2455 = .ok (.ifCond .eq 5, 3) := by decide +kernel
theorem dL_law__2458 : decode cL_law_ 2458 = .ok (.iconst 0, 1) := by decide +kernel
theorem dL_law__2459 : decode cL_law_ 2459 = .ok (.ireturn, 1) := by decide +kernel
theorem dL_law__2460 : decode cL_law_ 2460 = .ok (.goto 197, 3) := by decide +kernel
theorem dL_law__2463 : decode cL_law_ 2463 = .ok (.aload_n 1, 1) := by decide +kernel
theorem dL_law__2464 : decode cL_law_ 2464 = .ok (.aload_n 0, 1) := by decide +kernel
theorem dL_law__2465 : decode cL_law_ 2465 = .ok (.iload 4, 2) := by decide +kernel
theorem dL_law__2467 : decode cL_law_ 2467 = .ok (.iconst 1, 1) := by decide +kernel
theorem dL_law__2468 : decode cL_law_ 2468 = .ok (.iadd, 1) := by decide +kernel
theorem dL_law__2469 : decode cL_law_ 2469 = .ok (.iaload, 1) := by decide +kernel
theorem dL_law__2470 : decode cL_law_ 2470 = .ok (.aload_n 0, 1) := by decide +kernel
theorem dL_law__2471 : decode cL_law_ 2471 = .ok (.iload 4, 2) := by decide +kernel
theorem dL_law__2473 : decode cL_law_ 2473 = .ok (.iconst 2, 1) := by decide +kernel
theorem dL_law__2474 : decode cL_law_ 2474 = .ok (.iadd, 1) := by decide +kernel
theorem dL_law__2475 : decode cL_law_ 2475 = .ok (.iaload, 1) := by decide +kernel
theorem dL_law__2476 : decode cL_law_ 2476 = .ok (.aload_n 0, 1) := by decide +kernel
theorem dL_law__2477 : decode cL_law_ 2477 = .ok (.iload 4, 2) := by decide +kernel
theorem dL_law__2479 : decode cL_law_ 2479 = .ok (.iconst 3, 1) := by decide +kernel
theorem dL_law__2480 : decode cL_law_ 2480 = .ok (.iadd, 1) := by decide +kernel
theorem dL_law__2481 : decode cL_law_ 2481 = .ok (.iaload, 1) := by decide +kernel
theorem dL_law__2482 : decode cL_law_ 2482 = .ok (.aload_n 0, 1) := by decide +kernel
theorem dL_law__2483 : decode cL_law_ 2483 = .ok (.iload 4, 2) := by decide +kernel
theorem dL_law__2485 : decode cL_law_ 2485 = .ok (.iconst 4, 1) := by decide +kernel
theorem dL_law__2486 : decode cL_law_ 2486 = .ok (.iadd, 1) := by decide +kernel
theorem dL_law__2487 : decode cL_law_ 2487 = .ok (.iaload, 1) := by decide +kernel
theorem dL_law__2488 : decode cL_law_ 2488 = .ok (.aload_n 0, 1) := by decide +kernel
theorem dL_law__2489 : decode cL_law_ 2489 = .ok (.iload 4, 2) := by decide +kernel
theorem dL_law__2491 : decode cL_law_ 2491 = .ok (.iconst 5, 1) := by decide +kernel
theorem dL_law__2492 : decode cL_law_ 2492 = .ok (.iadd, 1) := by decide +kernel
theorem dL_law__2493 : decode cL_law_ 2493 = .ok (.iaload, 1) := by decide +kernel
theorem dL_law__2494 : decode cL_law_ 2494 = .ok (.aload_n 0, 1) := by decide +kernel
theorem dL_law__2495 : decode cL_law_ 2495 = .ok (.iload 4, 2) := by decide +kernel
theorem dL_law__2497 : decode cL_law_ 2497 = .ok (.bipush 6, 2) := by decide +kernel
theorem dL_law__2499 : decode cL_law_ 2499 = .ok (.iadd, 1) := by decide +kernel
theorem dL_law__2500 : decode cL_law_ 2500 = .ok (.iaload, 1) := by decide +kernel
theorem dL_law__2501 : decode cL_law_ 2501 = .ok (.aload_n 3, 1) := by decide +kernel
theorem dL_law__2502 : decode cL_law_ 2502 = .ok (.invokestatic 247, 3) := by decide +kernel
theorem dL_law__2505 : decode cL_law_ 2505 = .ok (.istore 5, 2) := by decide +kernel
theorem dL_law__2507 : decode cL_law_ 2507 = .ok (.aload_n 2, 1) := by decide +kernel
theorem dL_law__2508 : decode cL_law_ 2508 = .ok (.aload_n 0, 1) := by decide +kernel
theorem dL_law__2509 : decode cL_law_ 2509 = .ok (.iload 4, 2) := by decide +kernel
theorem dL_law__2511 : decode cL_law_ 2511 = .ok (.iconst 1, 1) := by decide +kernel
theorem dL_law__2512 : decode cL_law_ 2512 = .ok (.iadd, 1) := by decide +kernel
theorem dL_law__2513 : decode cL_law_ 2513 = .ok (.iaload, 1) := by decide +kernel
theorem dL_law__2514 : decode cL_law_ 2514 = .ok (.aload_n 0, 1) := by decide +kernel
theorem dL_law__2515 : decode cL_law_ 2515 = .ok (.iload 4, 2) := by decide +kernel
theorem dL_law__2517 : decode cL_law_ 2517 = .ok (.iconst 2, 1) := by decide +kernel
theorem dL_law__2518 : decode cL_law_ 2518 = .ok (.iadd, 1) := by decide +kernel
theorem dL_law__2519 : decode cL_law_ 2519 = .ok (.iaload, 1) := by decide +kernel
theorem dL_law__2520 : decode cL_law_ 2520 = .ok (.aload_n 0, 1) := by decide +kernel
theorem dL_law__2521 : decode cL_law_ 2521 = .ok (.iload 4, 2) := by decide +kernel
theorem dL_law__2523 : decode cL_law_ 2523 = .ok (.iconst 3, 1) := by decide +kernel
theorem dL_law__2524 : decode cL_law_ 2524 = .ok (.iadd, 1) := by decide +kernel
theorem dL_law__2525 : decode cL_law_ 2525 = .ok (.iaload, 1) := by decide +kernel
theorem dL_law__2526 : decode cL_law_ 2526 = .ok (.aload_n 0, 1) := by decide +kernel
theorem dL_law__2527 : decode cL_law_ 2527 = .ok (.iload 4, 2) := by decide +kernel
theorem dL_law__2529 : decode cL_law_ 2529 = .ok (.iconst 4, 1) := by decide +kernel
theorem dL_law__2530 : decode cL_law_ 2530 = .ok (.iadd, 1) := by decide +kernel
theorem dL_law__2531 : decode cL_law_ 2531 = .ok (.iaload, 1) := by decide +kernel
theorem dL_law__2532 : decode cL_law_ 2532 = .ok (.aload_n 0, 1) := by decide +kernel
theorem dL_law__2533 : decode cL_law_ 2533 = .ok (.iload 4, 2) := by decide +kernel
theorem dL_law__2535 : decode cL_law_ 2535 = .ok (.iconst 5, 1) := by decide +kernel
theorem dL_law__2536 : decode cL_law_ 2536 = .ok (.iadd, 1) := by decide +kernel
theorem dL_law__2537 : decode cL_law_ 2537 = .ok (.iaload, 1) := by decide +kernel
theorem dL_law__2538 : decode cL_law_ 2538 = .ok (.aload_n 0, 1) := by decide +kernel
theorem dL_law__2539 : decode cL_law_ 2539 = .ok (.iload 4, 2) := by decide +kernel
theorem dL_law__2541 : decode cL_law_ 2541 = .ok (.bipush 6, 2) := by decide +kernel
theorem dL_law__2543 : decode cL_law_ 2543 = .ok (.iadd, 1) := by decide +kernel
theorem dL_law__2544 : decode cL_law_ 2544 = .ok (.iaload, 1) := by decide +kernel
theorem dL_law__2545 : decode cL_law_ 2545 = .ok (.invokevirtual 250, 3) := by decide +kernel
theorem dL_law__2548 : decode cL_law_ 2548 = .ok (.istore 6, 2) := by decide +kernel
theorem dL_law__2550 : decode cL_law_ 2550 = .ok (.aload_n 2, 1) := by decide +kernel
theorem dL_law__2551 : decode cL_law_ 2551 = .ok (.invokevirtual 134, 3) := by decide +kernel
theorem dL_law__2554 : decode cL_law_ 2554 = .ok (.iload 5, 2) := by decide +kernel
theorem dL_law__2556 : decode cL_law_ 2556 = .ok (.if_icmp .eq 5, 3) := by decide +kernel
theorem dL_law__2559 : decode cL_law_ 2559 = .ok (.iconst 0, 1) := by decide +kernel
theorem dL_law__2560 : decode cL_law_ 2560 = .ok (.ireturn, 1) := by decide +kernel
theorem dL_law__2561 : decode cL_law_ 2561 = .ok (.iload 5, 2) := by decide +kernel
theorem dL_law__2563 : decode cL_law_ 2563 = .ok (.ifCond .ne 15, 3) := by decide +kernel
theorem dL_law__2566 : decode cL_law_ 2566 = .ok (.aload_n 3, 1) := by decide +kernel
theorem dL_law__2567 : decode cL_law_ 2567 = .ok (.iconst 0, 1) := by decide +kernel
theorem dL_law__2568 : decode cL_law_ 2568 = .ok (.laload, 1) := by decide +kernel
theorem dL_law__2569 : decode cL_law_ 2569 = .ok (.iload 6, 2) := by decide +kernel
theorem dL_law__2571 : decode cL_law_ 2571 = .ok (.i2l, 1) := by decide +kernel
theorem dL_law__2572 : decode cL_law_ 2572 = .ok (.lcmp, 1) := by decide +kernel
theorem dL_law__2573 : decode cL_law_ 2573 = .ok (.ifCond .eq 5, 3) := by decide +kernel
theorem dL_law__2576 : decode cL_law_ 2576 = .ok (.iconst 0, 1) := by decide +kernel
theorem dL_law__2577 : decode cL_law_ 2577 = .ok (.ireturn, 1) := by decide +kernel
theorem dL_law__2578 : decode cL_law_ 2578 = .ok (.goto 79, 3) := by decide +kernel
theorem dL_law__2581 : decode cL_law_ 2581 = .ok (.aload_n 1, 1) := by decide +kernel
theorem dL_law__2582 : decode cL_law_ 2582 = .ok (.invokevirtual 251, 3) := by decide +kernel
theorem dL_law__2585 : decode cL_law_ 2585 = .ok (.aload_n 2, 1) := by decide +kernel
theorem dL_law__2586 : decode cL_law_ 2586 = .ok (.invokevirtual 254, 3) := by decide +kernel
theorem dL_law__2589 : decode cL_law_ 2589 = .ok (.if_icmp .eq 68, 3) := by decide +kernel
theorem dL_law__2592 : decode cL_law_ 2592 = .ok (.iconst 0, 1) := by decide +kernel
theorem dL_law__2593 : decode cL_law_ 2593 = .ok (.ireturn, 1) := by decide +kernel
theorem dL_law__2594 : decode cL_law_ 2594 = .ok (.aload_n 1, 1) := by decide +kernel
theorem dL_law__2595 : decode cL_law_ 2595 = .ok (.invokevirtual 255, 3) := by decide +kernel
theorem dL_law__2598 : decode cL_law_ 2598 = .ok (.aload_n 2, 1) := by decide +kernel
theorem dL_law__2599 : decode cL_law_ 2599 = .ok (.invokevirtual 258, 3) := by decide +kernel
theorem dL_law__2602 : decode cL_law_ 2602 = .ok (.if_icmp .eq 55, 3) := by decide +kernel
theorem dL_law__2605 : decode cL_law_ 2605 = .ok (.iconst 0, 1) := by decide +kernel
theorem dL_law__2606 : decode cL_law_ 2606 = .ok (.ireturn, 1) := by decide +kernel
theorem dL_law__2607 : decode cL_law_ 2607 = .ok (.aload_n 1, 1) := by decide +kernel
theorem dL_law__2608 : decode cL_law_ 2608 = .ok (.aload_n 0, 1) := by decide +kernel
theorem dL_law__2609 : decode cL_law_ 2609 = .ok (.iload 4, 2) := by decide +kernel
theorem dL_law__2611 : decode cL_law_ 2611 = .ok (.iconst 1, 1) := by decide +kernel
theorem dL_law__2612 : decode cL_law_ 2612 = .ok (.iadd, 1) := by decide +kernel
theorem dL_law__2613 : decode cL_law_ 2613 = .ok (.iaload, 1) := by decide +kernel
theorem dL_law__2614 : decode cL_law_ 2614 = .ok (.invokevirtual 259, 3) := by decide +kernel
theorem dL_law__2617 : decode cL_law_ 2617 = .ok (.aload_n 2, 1) := by decide +kernel
theorem dL_law__2618 : decode cL_law_ 2618 = .ok (.aload_n 0, 1) := by decide +kernel
theorem dL_law__2619 : decode cL_law_ 2619 = .ok (.iload 4, 2) := by decide +kernel
theorem dL_law__2621 : decode cL_law_ 2621 = .ok (.iconst 1, 1) := by decide +kernel
theorem dL_law__2622 : decode cL_law_ 2622 = .ok (.iadd, 1) := by decide +kernel
theorem dL_law__2623 : decode cL_law_ 2623 = .ok (.iaload, 1) := by decide +kernel
theorem dL_law__2624 : decode cL_law_ 2624 = .ok (.invokevirtual 262, 3) := by decide +kernel
theorem dL_law__2627 : decode cL_law_ 2627 = .ok (.if_icmp .eq 30, 3) := by decide +kernel
theorem dL_law__2630 : decode cL_law_ 2630 = .ok (.iconst 0, 1) := by decide +kernel
theorem dL_law__2631 : decode cL_law_ 2631 = .ok (.ireturn, 1) := by decide +kernel
theorem dL_law__2632 : decode cL_law_ 2632 = .ok (.aload_n 1, 1) := by decide +kernel
theorem dL_law__2633 : decode cL_law_ 2633 = .ok (.aload_n 0, 1) := by decide +kernel
theorem dL_law__2634 : decode cL_law_ 2634 = .ok (.iload 4, 2) := by decide +kernel
theorem dL_law__2636 : decode cL_law_ 2636 = .ok (.iconst 1, 1) := by decide +kernel
theorem dL_law__2637 : decode cL_law_ 2637 = .ok (.iadd, 1) := by decide +kernel
theorem dL_law__2638 : decode cL_law_ 2638 = .ok (.iaload, 1) := by decide +kernel
theorem dL_law__2639 : decode cL_law_ 2639 = .ok (.invokevirtual 263, 3) := by decide +kernel
theorem dL_law__2642 : decode cL_law_ 2642 = .ok (.aload_n 2, 1) := by decide +kernel
theorem dL_law__2643 : decode cL_law_ 2643 = .ok (.aload_n 0, 1) := by decide +kernel
theorem dL_law__2644 : decode cL_law_ 2644 = .ok (.iload 4, 2) := by decide +kernel
theorem dL_law__2646 : decode cL_law_ 2646 = .ok (.iconst 1, 1) := by decide +kernel
theorem dL_law__2647 : decode cL_law_ 2647 = .ok (.iadd, 1) := by decide +kernel
theorem dL_law__2648 : decode cL_law_ 2648 = .ok (.iaload, 1) := by decide +kernel
theorem dL_law__2649 : decode cL_law_ 2649 = .ok (.invokevirtual 266, 3) := by decide +kernel
theorem dL_law__2652 : decode cL_law_ 2652 = .ok (.if_icmp .eq 5, 3) := by decide +kernel
theorem dL_law__2655 : decode cL_law_ 2655 = .ok (.iconst 0, 1) := by decide +kernel
theorem dL_law__2656 : decode cL_law_ 2656 = .ok (.ireturn, 1) := by decide +kernel
theorem dL_law__2657 : decode cL_law_ 2657 = .ok (.iinc 4 8, 3) := by decide +kernel
theorem dL_law__2660 : decode cL_law_ 2660 = .ok (.goto (-2637), 3) := by decide +kernel
theorem dL_law__2663 : decode cL_law_ 2663 = .ok (.iconst 1, 1) := by decide +kernel
theorem dL_law__2664 : decode cL_law_ 2664 = .ok (.ireturn, 1) := by decide +kernel

