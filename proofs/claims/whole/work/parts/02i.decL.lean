/-! decode rows of the law's body, 9 -/
theorem dL_law_2167 : decode code 2167 = .ok (.iaload, 1) := by decide +kernel
theorem dL_law_2168 : decode code 2168 = .ok (.invokevirtual 291, 3) := by decide +kernel
theorem dL_law_2171 : decode code 2171 = .ok (.istore 6, 2) := by decide +kernel
theorem dL_law_2173 : decode code 2173 = .ok (.aload_n 2, 1) := by decide +kernel
theorem dL_law_2174 : decode code 2174 = .ok (.invokevirtual 166, 3) := by decide +kernel
theorem dL_law_2177 : decode code 2177 = .ok (.iload 5, 2) := by decide +kernel
theorem dL_law_2179 : decode code 2179 = .ok (.if_icmp .eq 5, 3) := by decide +kernel
theorem dL_law_2182 : decode code 2182 = .ok (.iconst 0, 1) := by decide +kernel
theorem dL_law_2183 : decode code 2183 = .ok (.ireturn, 1) := by decide +kernel
theorem dL_law_2184 : decode code 2184 = .ok (.iload 5, 2) := by decide +kernel
theorem dL_law_2186 : decode code 2186 = .ok (.ifCond .ne 22, 3) := by decide +kernel
theorem dL_law_2189 : decode code 2189 = .ok (.aload_n 3, 1) := by decide +kernel
theorem dL_law_2190 : decode code 2190 = .ok (.iconst 0, 1) := by decide +kernel
theorem dL_law_2191 : decode code 2191 = .ok (.laload, 1) := by decide +kernel
theorem dL_law_2192 : decode code 2192 = .ok (.iload 6, 2) := by decide +kernel
theorem dL_law_2194 : decode code 2194 = .ok (.ifCond .eq 7, 3) := by decide +kernel
theorem dL_law_2197 : decode code 2197 = .ok (.lconst 1, 1) := by decide +kernel
theorem dL_law_2198 : decode code 2198 = .ok (.goto 4, 3) := by decide +kernel
theorem dL_law_2201 : decode code 2201 = .ok (.lconst 0, 1) := by decide +kernel
theorem dL_law_2202 : decode code 2202 = .ok (.lcmp, 1) := by decide +kernel
theorem dL_law_2203 : decode code 2203 = .ok (.ifCond .eq 5, 3) := by decide +kernel
theorem dL_law_2206 : decode code 2206 = .ok (.iconst 0, 1) := by decide +kernel
theorem dL_law_2207 : decode code 2207 = .ok (.ireturn, 1) := by decide +kernel
theorem dL_law_2208 : decode code 2208 = .ok (.goto 1273, 3) := by decide +kernel
theorem dL_law_2211 : decode code 2211 = .ok (.aload_n 1, 1) := by decide +kernel
theorem dL_law_2212 : decode code 2212 = .ok (.aload_n 0, 1) := by decide +kernel
theorem dL_law_2213 : decode code 2213 = .ok (.iload 4, 2) := by decide +kernel
theorem dL_law_2215 : decode code 2215 = .ok (.iconst 1, 1) := by decide +kernel
theorem dL_law_2216 : decode code 2216 = .ok (.iadd, 1) := by decide +kernel
theorem dL_law_2217 : decode code 2217 = .ok (.iaload, 1) := by decide +kernel
theorem dL_law_2218 : decode code 2218 = .ok (.aload_n 3, 1) := by decide +kernel
theorem dL_law_2219 : decode code 2219 = .ok (.invokestatic 292, 3) := by decide +kernel
theorem dL_law_2222 : decode code 2222 = .ok (.istore 5, 2) := by decide +kernel
theorem dL_law_2224 : decode code 2224 = .ok (.aload_n 2, 1) := by decide +kernel
theorem dL_law_2225 : decode code 2225 = .ok (.aload_n 0, 1) := by decide +kernel
theorem dL_law_2226 : decode code 2226 = .ok (.iload 4, 2) := by decide +kernel
theorem dL_law_2228 : decode code 2228 = .ok (.iconst 1, 1) := by decide +kernel
theorem dL_law_2229 : decode code 2229 = .ok (.iadd, 1) := by decide +kernel
theorem dL_law_2230 : decode code 2230 = .ok (.iaload, 1) := by decide +kernel
theorem dL_law_2231 : decode code 2231 = .ok (.invokevirtual 294, 3) := by decide +kernel
theorem dL_law_2234 : decode code 2234 = .ok (.istore 6, 2) := by decide +kernel
theorem dL_law_2236 : decode code 2236 = .ok (.aload_n 2, 1) := by decide +kernel
theorem dL_law_2237 : decode code 2237 = .ok (.invokevirtual 166, 3) := by decide +kernel
theorem dL_law_2240 : decode code 2240 = .ok (.iload 5, 2) := by decide +kernel
theorem dL_law_2242 : decode code 2242 = .ok (.if_icmp .eq 5, 3) := by decide +kernel
theorem dL_law_2245 : decode code 2245 = .ok (.iconst 0, 1) := by decide +kernel
theorem dL_law_2246 : decode code 2246 = .ok (.ireturn, 1) := by decide +kernel
theorem dL_law_2247 : decode code 2247 = .ok (.iload 5, 2) := by decide +kernel
theorem dL_law_2249 : decode code 2249 = .ok (.ifCond .ne 15, 3) := by decide +kernel
theorem dL_law_2252 : decode code 2252 = .ok (.aload_n 3, 1) := by decide +kernel
theorem dL_law_2253 : decode code 2253 = .ok (.iconst 0, 1) := by decide +kernel
theorem dL_law_2254 : decode code 2254 = .ok (.laload, 1) := by decide +kernel
theorem dL_law_2255 : decode code 2255 = .ok (.iload 6, 2) := by decide +kernel
theorem dL_law_2257 : decode code 2257 = .ok (.i2l, 1) := by decide +kernel
theorem dL_law_2258 : decode code 2258 = .ok (.lcmp, 1) := by decide +kernel
theorem dL_law_2259 : decode code 2259 = .ok (.ifCond .eq 5, 3) := by decide +kernel
theorem dL_law_2262 : decode code 2262 = .ok (.iconst 0, 1) := by decide +kernel
theorem dL_law_2263 : decode code 2263 = .ok (.ireturn, 1) := by decide +kernel
theorem dL_law_2264 : decode code 2264 = .ok (.goto 1217, 3) := by decide +kernel
theorem dL_law_2267 : decode code 2267 = .ok (.aload_n 1, 1) := by decide +kernel
theorem dL_law_2268 : decode code 2268 = .ok (.aload_n 0, 1) := by decide +kernel
theorem dL_law_2269 : decode code 2269 = .ok (.iload 4, 2) := by decide +kernel
theorem dL_law_2271 : decode code 2271 = .ok (.iconst 1, 1) := by decide +kernel
theorem dL_law_2272 : decode code 2272 = .ok (.iadd, 1) := by decide +kernel
theorem dL_law_2273 : decode code 2273 = .ok (.iaload, 1) := by decide +kernel
theorem dL_law_2274 : decode code 2274 = .ok (.aload_n 3, 1) := by decide +kernel
theorem dL_law_2275 : decode code 2275 = .ok (.invokestatic 295, 3) := by decide +kernel
theorem dL_law_2278 : decode code 2278 = .ok (.istore 5, 2) := by decide +kernel
theorem dL_law_2280 : decode code 2280 = .ok (.aload_n 2, 1) := by decide +kernel
theorem dL_law_2281 : decode code 2281 = .ok (.aload_n 0, 1) := by decide +kernel
theorem dL_law_2282 : decode code 2282 = .ok (.iload 4, 2) := by decide +kernel
theorem dL_law_2284 : decode code 2284 = .ok (.iconst 1, 1) := by decide +kernel
theorem dL_law_2285 : decode code 2285 = .ok (.iadd, 1) := by decide +kernel
theorem dL_law_2286 : decode code 2286 = .ok (.iaload, 1) := by decide +kernel
theorem dL_law_2287 : decode code 2287 = .ok (.invokevirtual 297, 3) := by decide +kernel
theorem dL_law_2290 : decode code 2290 = .ok (.istore 6, 2) := by decide +kernel
theorem dL_law_2292 : decode code 2292 = .ok (.aload_n 2, 1) := by decide +kernel
theorem dL_law_2293 : decode code 2293 = .ok (.invokevirtual 166, 3) := by decide +kernel
theorem dL_law_2296 : decode code 2296 = .ok (.iload 5, 2) := by decide +kernel
theorem dL_law_2298 : decode code 2298 = .ok (.if_icmp .eq 5, 3) := by decide +kernel
theorem dL_law_2301 : decode code 2301 = .ok (.iconst 0, 1) := by decide +kernel
theorem dL_law_2302 : decode code 2302 = .ok (.ireturn, 1) := by decide +kernel
theorem dL_law_2303 : decode code 2303 = .ok (.iload 5, 2) := by decide +kernel
theorem dL_law_2305 : decode code 2305 = .ok (.ifCond .ne 15, 3) := by decide +kernel
theorem dL_law_2308 : decode code 2308 = .ok (.aload_n 3, 1) := by decide +kernel
theorem dL_law_2309 : decode code 2309 = .ok (.iconst 0, 1) := by decide +kernel
theorem dL_law_2310 : decode code 2310 = .ok (.laload, 1) := by decide +kernel
theorem dL_law_2311 : decode code 2311 = .ok (.iload 6, 2) := by decide +kernel
theorem dL_law_2313 : decode code 2313 = .ok (.i2l, 1) := by decide +kernel
theorem dL_law_2314 : decode code 2314 = .ok (.lcmp, 1) := by decide +kernel
theorem dL_law_2315 : decode code 2315 = .ok (.ifCond .eq 5, 3) := by decide +kernel
theorem dL_law_2318 : decode code 2318 = .ok (.iconst 0, 1) := by decide +kernel
theorem dL_law_2319 : decode code 2319 = .ok (.ireturn, 1) := by decide +kernel
theorem dL_law_2320 : decode code 2320 = .ok (.goto 1161, 3) := by decide +kernel
theorem dL_law_2323 : decode code 2323 = .ok (.aload_n 1, 1) := by decide +kernel
theorem dL_law_2324 : decode code 2324 = .ok (.aload_n 0, 1) := by decide +kernel
theorem dL_law_2325 : decode code 2325 = .ok (.iload 4, 2) := by decide +kernel
theorem dL_law_2327 : decode code 2327 = .ok (.iconst 1, 1) := by decide +kernel
theorem dL_law_2328 : decode code 2328 = .ok (.iadd, 1) := by decide +kernel
theorem dL_law_2329 : decode code 2329 = .ok (.iaload, 1) := by decide +kernel
theorem dL_law_2330 : decode code 2330 = .ok (.aload_n 3, 1) := by decide +kernel
theorem dL_law_2331 : decode code 2331 = .ok (.invokestatic 298, 3) := by decide +kernel
theorem dL_law_2334 : decode code 2334 = .ok (.istore 5, 2) := by decide +kernel
theorem dL_law_2336 : decode code 2336 = .ok (.aload_n 2, 1) := by decide +kernel
theorem dL_law_2337 : decode code 2337 = .ok (.aload_n 0, 1) := by decide +kernel
theorem dL_law_2338 : decode code 2338 = .ok (.iload 4, 2) := by decide +kernel
theorem dL_law_2340 : decode code 2340 = .ok (.iconst 1, 1) := by decide +kernel
theorem dL_law_2341 : decode code 2341 = .ok (.iadd, 1) := by decide +kernel
theorem dL_law_2342 : decode code 2342 = .ok (.iaload, 1) := by decide +kernel
theorem dL_law_2343 : decode code 2343 = .ok (.invokevirtual 300, 3) := by decide +kernel
theorem dL_law_2346 : decode code 2346 = .ok (.istore 6, 2) := by decide +kernel
theorem dL_law_2348 : decode code 2348 = .ok (.aload_n 2, 1) := by decide +kernel
theorem dL_law_2349 : decode code 2349 = .ok (.invokevirtual 166, 3) := by decide +kernel
theorem dL_law_2352 : decode code 2352 = .ok (.iload 5, 2) := by decide +kernel
theorem dL_law_2354 : decode code 2354 = .ok (.if_icmp .eq 5, 3) := by decide +kernel
theorem dL_law_2357 : decode code 2357 = .ok (.iconst 0, 1) := by decide +kernel
theorem dL_law_2358 : decode code 2358 = .ok (.ireturn, 1) := by decide +kernel
theorem dL_law_2359 : decode code 2359 = .ok (.iload 5, 2) := by decide +kernel
theorem dL_law_2361 : decode code 2361 = .ok (.ifCond .ne 15, 3) := by decide +kernel
theorem dL_law_2364 : decode code 2364 = .ok (.aload_n 3, 1) := by decide +kernel
theorem dL_law_2365 : decode code 2365 = .ok (.iconst 0, 1) := by decide +kernel
theorem dL_law_2366 : decode code 2366 = .ok (.laload, 1) := by decide +kernel
theorem dL_law_2367 : decode code 2367 = .ok (.iload 6, 2) := by decide +kernel
theorem dL_law_2369 : decode code 2369 = .ok (.i2l, 1) := by decide +kernel
theorem dL_law_2370 : decode code 2370 = .ok (.lcmp, 1) := by decide +kernel
theorem dL_law_2371 : decode code 2371 = .ok (.ifCond .eq 5, 3) := by decide +kernel
theorem dL_law_2374 : decode code 2374 = .ok (.iconst 0, 1) := by decide +kernel
theorem dL_law_2375 : decode code 2375 = .ok (.ireturn, 1) := by decide +kernel
theorem dL_law_2376 : decode code 2376 = .ok (.goto 1105, 3) := by decide +kernel
theorem dL_law_2379 : decode code 2379 = .ok (.aload_n 1, 1) := by decide +kernel
theorem dL_law_2380 : decode code 2380 = .ok (.invokevirtual 301, 3) := by decide +kernel
theorem dL_law_2383 : decode code 2383 = .ok (.aload_n 2, 1) := by decide +kernel
theorem dL_law_2384 : decode code 2384 = .ok (.invokevirtual 304, 3) := by decide +kernel
theorem dL_law_2387 : decode code 2387 = .ok (.if_icmp .eq 1094, 3) := by decide +kernel
theorem dL_law_2390 : decode code 2390 = .ok (.iconst 0, 1) := by decide +kernel
theorem dL_law_2391 : decode code 2391 = .ok (.ireturn, 1) := by decide +kernel
theorem dL_law_2392 : decode code 2392 = .ok (.aload_n 1, 1) := by decide +kernel
theorem dL_law_2393 : decode code 2393 = .ok (.aload_n 0, 1) := by decide +kernel
theorem dL_law_2394 : decode code 2394 = .ok (.iload 4, 2) := by decide +kernel
theorem dL_law_2396 : decode code 2396 = .ok (.iconst 1, 1) := by decide +kernel
theorem dL_law_2397 : decode code 2397 = .ok (.iadd, 1) := by decide +kernel
theorem dL_law_2398 : decode code 2398 = .ok (.iaload, 1) := by decide +kernel
theorem dL_law_2399 : decode code 2399 = .ok (.aload_n 3, 1) := by decide +kernel
theorem dL_law_2400 : decode code 2400 = .ok (.invokestatic 305, 3) := by decide +kernel
theorem dL_law_2403 : decode code 2403 = .ok (.istore 5, 2) := by decide +kernel
theorem dL_law_2405 : decode code 2405 = .ok (.aload_n 2, 1) := by decide +kernel
theorem dL_law_2406 : decode code 2406 = .ok (.aload_n 0, 1) := by decide +kernel
theorem dL_law_2407 : decode code 2407 = .ok (.iload 4, 2) := by decide +kernel
theorem dL_law_2409 : decode code 2409 = .ok (.iconst 1, 1) := by decide +kernel
theorem dL_law_2410 : decode code 2410 = .ok (.iadd, 1) := by decide +kernel
