/-! Pieces of the law and of the calls that it makes, by program out of the tables. -/
theorem f_420_2149 : ftc (PT 420) 2149 = some (2149, .istore 5, 2, 0, 0, 0) := by decide +kernel
theorem f_420_2151 : ftc (PT 420) 2151 = some (2151, .aload_n 2, 1, 0, 0, 0) := by decide +kernel
theorem f_420_2152 : ftc (PT 420) 2152 = some (2152, .aload_n 0, 1, 0, 0, 0) := by decide +kernel
theorem f_420_2153 : ftc (PT 420) 2153 = some (2153, .iload 4, 2, 0, 0, 0) := by decide +kernel
theorem f_420_2155 : ftc (PT 420) 2155 = some (2155, .iconst 1, 1, 0, 0, 0) := by decide +kernel
theorem f_420_2156 : ftc (PT 420) 2156 = some (2156, .iadd, 1, 0, 0, 0) := by decide +kernel
theorem f_420_2157 : ftc (PT 420) 2157 = some (2157, .iaload, 1, 0, 0, 0) := by decide +kernel
theorem f_420_2158 : ftc (PT 420) 2158 = some (2158, .aload_n 0, 1, 0, 0, 0) := by decide +kernel
theorem f_420_2159 : ftc (PT 420) 2159 = some (2159, .iload 4, 2, 0, 0, 0) := by decide +kernel
theorem f_420_2161 : ftc (PT 420) 2161 = some (2161, .iconst 2, 1, 0, 0, 0) := by decide +kernel
theorem f_420_2162 : ftc (PT 420) 2162 = some (2162, .iadd, 1, 0, 0, 0) := by decide +kernel
theorem f_420_2163 : ftc (PT 420) 2163 = some (2163, .iaload, 1, 0, 0, 0) := by decide +kernel
theorem f_420_2164 : ftc (PT 420) 2164 = some (2164, .ifCond .eq 7, 3, 2171, 0, 0) := by decide +kernel
theorem f_420_2167 : ftc (PT 420) 2167 = some (2167, .iconst 1, 1, 0, 0, 0) := by decide +kernel
theorem f_420_2168 : ftc (PT 420) 2168 = some (2168, .goto 4, 3, 2172, 0, 0) := by decide +kernel
theorem f_420_2171 : ftc (PT 420) 2171 = some (2171, .iconst 0, 1, 0, 0, 0) := by decide +kernel
theorem f_420_2172 : ftc (PT 420) 2172 = some (2172, .aload_n 0, 1, 0, 0, 0) := by decide +kernel
theorem f_420_2173 : ftc (PT 420) 2173 = some (2173, .iload 4, 2, 0, 0, 0) := by decide +kernel
theorem f_420_2175 : ftc (PT 420) 2175 = some (2175, .iconst 3, 1, 0, 0, 0) := by decide +kernel
theorem f_420_2176 : ftc (PT 420) 2176 = some (2176, .iadd, 1, 0, 0, 0) := by decide +kernel
theorem f_420_2177 : ftc (PT 420) 2177 = some (2177, .iaload, 1, 0, 0, 0) := by decide +kernel
theorem f_420_2178 : ftc (PT 420) 2178 = some (2178, .invokevirtual 282, 3, 270, 4204, 1999) := by decide +kernel
theorem f_420_2181 : ftc (PT 420) 2181 = some (2181, .istore 6, 2, 0, 0, 0) := by decide +kernel
theorem f_420_2183 : ftc (PT 420) 2183 = some (2183, .aload_n 2, 1, 0, 0, 0) := by decide +kernel
theorem f_420_2184 : ftc (PT 420) 2184 = some (2184, .invokevirtual 202, 3, 212, 1036, 1769) := by decide +kernel
theorem f_420_2187 : ftc (PT 420) 2187 = some (2187, .iload 5, 2, 0, 0, 0) := by decide +kernel
theorem f_420_2189 : ftc (PT 420) 2189 = some (2189, .if_icmp .eq 5, 3, 2194, 0, 0) := by decide +kernel
theorem f_420_2192 : ftc (PT 420) 2192 = some (2192, .iconst 0, 1, 0, 0, 0) := by decide +kernel
theorem f_420_2193 : ftc (PT 420) 2193 = some (2193, .ireturn, 1, 1, 0, 0) := by decide +kernel
theorem f_420_2194 : ftc (PT 420) 2194 = some (2194, .iload 5, 2, 0, 0, 0) := by decide +kernel
theorem f_420_2196 : ftc (PT 420) 2196 = some (2196, .ifCond .ne 15, 3, 2211, 0, 0) := by decide +kernel
theorem f_420_2199 : ftc (PT 420) 2199 = some (2199, .aload_n 3, 1, 0, 0, 0) := by decide +kernel
theorem f_420_2200 : ftc (PT 420) 2200 = some (2200, .iconst 0, 1, 0, 0, 0) := by decide +kernel
theorem f_420_2201 : ftc (PT 420) 2201 = some (2201, .laload, 1, 0, 0, 0) := by decide +kernel
theorem f_420_2202 : ftc (PT 420) 2202 = some (2202, .iload 6, 2, 0, 0, 0) := by decide +kernel
theorem f_420_2204 : ftc (PT 420) 2204 = some (2204, .i2l, 1, 0, 0, 0) := by decide +kernel
theorem f_420_2205 : ftc (PT 420) 2205 = some (2205, .lcmp, 1, 0, 0, 0) := by decide +kernel
theorem f_420_2206 : ftc (PT 420) 2206 = some (2206, .ifCond .eq 5, 3, 2211, 0, 0) := by decide +kernel
theorem f_420_2209 : ftc (PT 420) 2209 = some (2209, .iconst 0, 1, 0, 0, 0) := by decide +kernel
theorem f_420_2210 : ftc (PT 420) 2210 = some (2210, .ireturn, 1, 1, 0, 0) := by decide +kernel
theorem f_420_2211 : ftc (PT 420) 2211 = some (2211, .goto 2706, 3, 4917, 0, 0) := by decide +kernel
theorem f_420_2214 : ftc (PT 420) 2214 = some (2214, .aload_n 1, 1, 0, 0, 0) := by decide +kernel
theorem f_420_2215 : ftc (PT 420) 2215 = some (2215, .aload_n 0, 1, 0, 0, 0) := by decide +kernel
theorem f_420_2216 : ftc (PT 420) 2216 = some (2216, .iload 4, 2, 0, 0, 0) := by decide +kernel
theorem f_420_2218 : ftc (PT 420) 2218 = some (2218, .iconst 1, 1, 0, 0, 0) := by decide +kernel
theorem f_420_2219 : ftc (PT 420) 2219 = some (2219, .iadd, 1, 0, 0, 0) := by decide +kernel
theorem f_420_2220 : ftc (PT 420) 2220 = some (2220, .iaload, 1, 0, 0, 0) := by decide +kernel
theorem f_420_2221 : ftc (PT 420) 2221 = some (2221, .ifCond .eq 7, 3, 2228, 0, 0) := by decide +kernel
theorem f_420_2224 : ftc (PT 420) 2224 = some (2224, .iconst 1, 1, 0, 0, 0) := by decide +kernel
theorem f_420_2225 : ftc (PT 420) 2225 = some (2225, .goto 4, 3, 2229, 0, 0) := by decide +kernel
theorem f_420_2228 : ftc (PT 420) 2228 = some (2228, .iconst 0, 1, 0, 0, 0) := by decide +kernel
theorem f_420_2229 : ftc (PT 420) 2229 = some (2229, .aload_n 0, 1, 0, 0, 0) := by decide +kernel
theorem f_420_2230 : ftc (PT 420) 2230 = some (2230, .iload 4, 2, 0, 0, 0) := by decide +kernel
theorem f_420_2232 : ftc (PT 420) 2232 = some (2232, .iconst 2, 1, 0, 0, 0) := by decide +kernel
theorem f_420_2233 : ftc (PT 420) 2233 = some (2233, .iadd, 1, 0, 0, 0) := by decide +kernel
theorem f_420_2234 : ftc (PT 420) 2234 = some (2234, .iaload, 1, 0, 0, 0) := by decide +kernel
theorem f_420_2235 : ftc (PT 420) 2235 = some (2235, .aload_n 0, 1, 0, 0, 0) := by decide +kernel
theorem f_420_2236 : ftc (PT 420) 2236 = some (2236, .iload 4, 2, 0, 0, 0) := by decide +kernel
theorem f_420_2238 : ftc (PT 420) 2238 = some (2238, .iconst 3, 1, 0, 0, 0) := by decide +kernel
theorem f_420_2239 : ftc (PT 420) 2239 = some (2239, .iadd, 1, 0, 0, 0) := by decide +kernel
theorem f_420_2240 : ftc (PT 420) 2240 = some (2240, .iaload, 1, 0, 0, 0) := by decide +kernel
theorem f_420_2241 : ftc (PT 420) 2241 = some (2241, .ifCond .eq 7, 3, 2248, 0, 0) := by decide +kernel
theorem f_420_2244 : ftc (PT 420) 2244 = some (2244, .iconst 1, 1, 0, 0, 0) := by decide +kernel
theorem f_420_2245 : ftc (PT 420) 2245 = some (2245, .goto 4, 3, 2249, 0, 0) := by decide +kernel
theorem f_420_2248 : ftc (PT 420) 2248 = some (2248, .iconst 0, 1, 0, 0, 0) := by decide +kernel
theorem f_420_2249 : ftc (PT 420) 2249 = some (2249, .aload_n 3, 1, 0, 0, 0) := by decide +kernel
theorem f_420_2250 : ftc (PT 420) 2250 = some (2250, .invokestatic 283, 3, 389, 6149, 1201) := by decide +kernel
theorem f_420_2253 : ftc (PT 420) 2253 = some (2253, .istore 5, 2, 0, 0, 0) := by decide +kernel
theorem f_420_2255 : ftc (PT 420) 2255 = some (2255, .aload_n 2, 1, 0, 0, 0) := by decide +kernel
theorem f_420_2256 : ftc (PT 420) 2256 = some (2256, .aload_n 0, 1, 0, 0, 0) := by decide +kernel
theorem f_420_2257 : ftc (PT 420) 2257 = some (2257, .iload 4, 2, 0, 0, 0) := by decide +kernel
theorem f_420_2259 : ftc (PT 420) 2259 = some (2259, .iconst 1, 1, 0, 0, 0) := by decide +kernel
theorem f_420_2260 : ftc (PT 420) 2260 = some (2260, .iadd, 1, 0, 0, 0) := by decide +kernel
theorem f_420_2261 : ftc (PT 420) 2261 = some (2261, .iaload, 1, 0, 0, 0) := by decide +kernel
theorem f_420_2262 : ftc (PT 420) 2262 = some (2262, .ifCond .eq 7, 3, 2269, 0, 0) := by decide +kernel
theorem f_420_2265 : ftc (PT 420) 2265 = some (2265, .iconst 1, 1, 0, 0, 0) := by decide +kernel
theorem f_420_2266 : ftc (PT 420) 2266 = some (2266, .goto 4, 3, 2270, 0, 0) := by decide +kernel
theorem f_420_2269 : ftc (PT 420) 2269 = some (2269, .iconst 0, 1, 0, 0, 0) := by decide +kernel
theorem f_420_2270 : ftc (PT 420) 2270 = some (2270, .aload_n 0, 1, 0, 0, 0) := by decide +kernel
theorem f_420_2271 : ftc (PT 420) 2271 = some (2271, .iload 4, 2, 0, 0, 0) := by decide +kernel
theorem f_420_2273 : ftc (PT 420) 2273 = some (2273, .iconst 2, 1, 0, 0, 0) := by decide +kernel
theorem f_420_2274 : ftc (PT 420) 2274 = some (2274, .iadd, 1, 0, 0, 0) := by decide +kernel
theorem f_420_2275 : ftc (PT 420) 2275 = some (2275, .iaload, 1, 0, 0, 0) := by decide +kernel
theorem f_420_2276 : ftc (PT 420) 2276 = some (2276, .aload_n 0, 1, 0, 0, 0) := by decide +kernel
theorem f_420_2277 : ftc (PT 420) 2277 = some (2277, .iload 4, 2, 0, 0, 0) := by decide +kernel
theorem f_420_2279 : ftc (PT 420) 2279 = some (2279, .iconst 3, 1, 0, 0, 0) := by decide +kernel
theorem f_420_2280 : ftc (PT 420) 2280 = some (2280, .iadd, 1, 0, 0, 0) := by decide +kernel
theorem f_420_2281 : ftc (PT 420) 2281 = some (2281, .iaload, 1, 0, 0, 0) := by decide +kernel
theorem f_420_2282 : ftc (PT 420) 2282 = some (2282, .ifCond .eq 7, 3, 2289, 0, 0) := by decide +kernel
theorem f_420_2285 : ftc (PT 420) 2285 = some (2285, .iconst 1, 1, 0, 0, 0) := by decide +kernel
theorem f_420_2286 : ftc (PT 420) 2286 = some (2286, .goto 4, 3, 2290, 0, 0) := by decide +kernel
theorem f_420_2289 : ftc (PT 420) 2289 = some (2289, .iconst 0, 1, 0, 0, 0) := by decide +kernel
theorem f_420_2290 : ftc (PT 420) 2290 = some (2290, .invokevirtual 286, 3, 271, 12396, 2003) := by decide +kernel
theorem f_420_2293 : ftc (PT 420) 2293 = some (2293, .istore 6, 2, 0, 0, 0) := by decide +kernel
theorem f_420_2295 : ftc (PT 420) 2295 = some (2295, .aload_n 2, 1, 0, 0, 0) := by decide +kernel
theorem f_420_2296 : ftc (PT 420) 2296 = some (2296, .invokevirtual 202, 3, 212, 1036, 1769) := by decide +kernel
theorem f_420_2299 : ftc (PT 420) 2299 = some (2299, .iload 5, 2, 0, 0, 0) := by decide +kernel
theorem f_420_2301 : ftc (PT 420) 2301 = some (2301, .if_icmp .eq 5, 3, 2306, 0, 0) := by decide +kernel
theorem f_420_2304 : ftc (PT 420) 2304 = some (2304, .iconst 0, 1, 0, 0, 0) := by decide +kernel
theorem f_420_2305 : ftc (PT 420) 2305 = some (2305, .ireturn, 1, 1, 0, 0) := by decide +kernel
theorem f_420_2306 : ftc (PT 420) 2306 = some (2306, .iload 5, 2, 0, 0, 0) := by decide +kernel
theorem f_420_2308 : ftc (PT 420) 2308 = some (2308, .ifCond .ne 15, 3, 2323, 0, 0) := by decide +kernel
theorem f_420_2311 : ftc (PT 420) 2311 = some (2311, .aload_n 3, 1, 0, 0, 0) := by decide +kernel
theorem f_420_2312 : ftc (PT 420) 2312 = some (2312, .iconst 0, 1, 0, 0, 0) := by decide +kernel
theorem f_420_2313 : ftc (PT 420) 2313 = some (2313, .laload, 1, 0, 0, 0) := by decide +kernel
theorem f_420_2314 : ftc (PT 420) 2314 = some (2314, .iload 6, 2, 0, 0, 0) := by decide +kernel
theorem f_420_2316 : ftc (PT 420) 2316 = some (2316, .i2l, 1, 0, 0, 0) := by decide +kernel
theorem f_420_2317 : ftc (PT 420) 2317 = some (2317, .lcmp, 1, 0, 0, 0) := by decide +kernel
theorem f_420_2318 : ftc (PT 420) 2318 = some (2318, .ifCond .eq 5, 3, 2323, 0, 0) := by decide +kernel
theorem f_420_2321 : ftc (PT 420) 2321 = some (2321, .iconst 0, 1, 0, 0, 0) := by decide +kernel
theorem f_420_2322 : ftc (PT 420) 2322 = some (2322, .ireturn, 1, 1, 0, 0) := by decide +kernel
theorem f_420_2323 : ftc (PT 420) 2323 = some (2323, .goto 2594, 3, 4917, 0, 0) := by decide +kernel
theorem f_420_2326 : ftc (PT 420) 2326 = some (2326, .aload_n 1, 1, 0, 0, 0) := by decide +kernel
theorem f_420_2327 : ftc (PT 420) 2327 = some (2327, .aload_n 0, 1, 0, 0, 0) := by decide +kernel
theorem f_420_2328 : ftc (PT 420) 2328 = some (2328, .iload 4, 2, 0, 0, 0) := by decide +kernel
theorem f_420_2330 : ftc (PT 420) 2330 = some (2330, .iconst 1, 1, 0, 0, 0) := by decide +kernel
theorem f_420_2331 : ftc (PT 420) 2331 = some (2331, .iadd, 1, 0, 0, 0) := by decide +kernel
theorem f_420_2332 : ftc (PT 420) 2332 = some (2332, .iaload, 1, 0, 0, 0) := by decide +kernel
theorem f_420_2333 : ftc (PT 420) 2333 = some (2333, .aload_n 0, 1, 0, 0, 0) := by decide +kernel
theorem f_420_2334 : ftc (PT 420) 2334 = some (2334, .iload 4, 2, 0, 0, 0) := by decide +kernel
theorem f_420_2336 : ftc (PT 420) 2336 = some (2336, .iconst 2, 1, 0, 0, 0) := by decide +kernel
theorem f_420_2337 : ftc (PT 420) 2337 = some (2337, .iadd, 1, 0, 0, 0) := by decide +kernel
theorem f_420_2338 : ftc (PT 420) 2338 = some (2338, .iaload, 1, 0, 0, 0) := by decide +kernel
theorem f_420_2339 : ftc (PT 420) 2339 = some (2339, .ifCond .eq 7, 3, 2346, 0, 0) := by decide +kernel
theorem f_420_2342 : ftc (PT 420) 2342 = some (2342, .iconst 1, 1, 0, 0, 0) := by decide +kernel
theorem f_420_2343 : ftc (PT 420) 2343 = some (2343, .goto 4, 3, 2347, 0, 0) := by decide +kernel
theorem f_420_2346 : ftc (PT 420) 2346 = some (2346, .iconst 0, 1, 0, 0, 0) := by decide +kernel
theorem f_420_2347 : ftc (PT 420) 2347 = some (2347, .aload_n 0, 1, 0, 0, 0) := by decide +kernel
theorem f_420_2348 : ftc (PT 420) 2348 = some (2348, .iload 4, 2, 0, 0, 0) := by decide +kernel
theorem f_420_2350 : ftc (PT 420) 2350 = some (2350, .iconst 3, 1, 0, 0, 0) := by decide +kernel
theorem f_420_2351 : ftc (PT 420) 2351 = some (2351, .iadd, 1, 0, 0, 0) := by decide +kernel
theorem f_420_2352 : ftc (PT 420) 2352 = some (2352, .iaload, 1, 0, 0, 0) := by decide +kernel
theorem f_420_2353 : ftc (PT 420) 2353 = some (2353, .ifCond .eq 7, 3, 2360, 0, 0) := by decide +kernel
theorem f_420_2356 : ftc (PT 420) 2356 = some (2356, .iconst 1, 1, 0, 0, 0) := by decide +kernel
theorem f_420_2357 : ftc (PT 420) 2357 = some (2357, .goto 4, 3, 2361, 0, 0) := by decide +kernel
theorem f_420_2360 : ftc (PT 420) 2360 = some (2360, .iconst 0, 1, 0, 0, 0) := by decide +kernel
theorem f_420_2361 : ftc (PT 420) 2361 = some (2361, .aload_n 3, 1, 0, 0, 0) := by decide +kernel
theorem f_420_2362 : ftc (PT 420) 2362 = some (2362, .invokestatic 287, 3, 390, 6149, 1211) := by decide +kernel
theorem f_420_2365 : ftc (PT 420) 2365 = some (2365, .istore 5, 2, 0, 0, 0) := by decide +kernel
theorem f_420_2367 : ftc (PT 420) 2367 = some (2367, .aload_n 2, 1, 0, 0, 0) := by decide +kernel
theorem f_420_2368 : ftc (PT 420) 2368 = some (2368, .aload_n 0, 1, 0, 0, 0) := by decide +kernel
theorem f_420_2369 : ftc (PT 420) 2369 = some (2369, .iload 4, 2, 0, 0, 0) := by decide +kernel
theorem f_420_2371 : ftc (PT 420) 2371 = some (2371, .iconst 1, 1, 0, 0, 0) := by decide +kernel
theorem f_420_2372 : ftc (PT 420) 2372 = some (2372, .iadd, 1, 0, 0, 0) := by decide +kernel
theorem f_420_2373 : ftc (PT 420) 2373 = some (2373, .iaload, 1, 0, 0, 0) := by decide +kernel
theorem f_420_2374 : ftc (PT 420) 2374 = some (2374, .aload_n 0, 1, 0, 0, 0) := by decide +kernel
theorem f_420_2375 : ftc (PT 420) 2375 = some (2375, .iload 4, 2, 0, 0, 0) := by decide +kernel
theorem f_420_2377 : ftc (PT 420) 2377 = some (2377, .iconst 2, 1, 0, 0, 0) := by decide +kernel
theorem f_420_2378 : ftc (PT 420) 2378 = some (2378, .iadd, 1, 0, 0, 0) := by decide +kernel
theorem f_420_2379 : ftc (PT 420) 2379 = some (2379, .iaload, 1, 0, 0, 0) := by decide +kernel
theorem f_420_2380 : ftc (PT 420) 2380 = some (2380, .ifCond .eq 7, 3, 2387, 0, 0) := by decide +kernel
theorem f_420_2383 : ftc (PT 420) 2383 = some (2383, .iconst 1, 1, 0, 0, 0) := by decide +kernel
theorem f_420_2384 : ftc (PT 420) 2384 = some (2384, .goto 4, 3, 2388, 0, 0) := by decide +kernel
theorem f_420_2387 : ftc (PT 420) 2387 = some (2387, .iconst 0, 1, 0, 0, 0) := by decide +kernel
theorem f_420_2388 : ftc (PT 420) 2388 = some (2388, .aload_n 0, 1, 0, 0, 0) := by decide +kernel
theorem f_420_2389 : ftc (PT 420) 2389 = some (2389, .iload 4, 2, 0, 0, 0) := by decide +kernel
theorem f_420_2391 : ftc (PT 420) 2391 = some (2391, .iconst 3, 1, 0, 0, 0) := by decide +kernel
theorem f_420_2392 : ftc (PT 420) 2392 = some (2392, .iadd, 1, 0, 0, 0) := by decide +kernel
theorem f_420_2393 : ftc (PT 420) 2393 = some (2393, .iaload, 1, 0, 0, 0) := by decide +kernel
theorem f_420_2394 : ftc (PT 420) 2394 = some (2394, .ifCond .eq 7, 3, 2401, 0, 0) := by decide +kernel
theorem f_420_2397 : ftc (PT 420) 2397 = some (2397, .iconst 1, 1, 0, 0, 0) := by decide +kernel
theorem f_420_2398 : ftc (PT 420) 2398 = some (2398, .goto 4, 3, 2402, 0, 0) := by decide +kernel
theorem f_420_2401 : ftc (PT 420) 2401 = some (2401, .iconst 0, 1, 0, 0, 0) := by decide +kernel
theorem f_420_2402 : ftc (PT 420) 2402 = some (2402, .invokevirtual 289, 3, 273, 4204, 2011) := by decide +kernel
theorem f_420_2405 : ftc (PT 420) 2405 = some (2405, .lstore 6, 2, 0, 0, 0) := by decide +kernel
theorem f_420_2407 : ftc (PT 420) 2407 = some (2407, .aload_n 2, 1, 0, 0, 0) := by decide +kernel
theorem f_420_2408 : ftc (PT 420) 2408 = some (2408, .invokevirtual 202, 3, 212, 1036, 1769) := by decide +kernel
theorem f_420_2411 : ftc (PT 420) 2411 = some (2411, .iload 5, 2, 0, 0, 0) := by decide +kernel
theorem f_420_2413 : ftc (PT 420) 2413 = some (2413, .if_icmp .eq 5, 3, 2418, 0, 0) := by decide +kernel
theorem f_420_2416 : ftc (PT 420) 2416 = some (2416, .iconst 0, 1, 0, 0, 0) := by decide +kernel
theorem f_420_2417 : ftc (PT 420) 2417 = some (2417, .ireturn, 1, 1, 0, 0) := by decide +kernel
theorem f_420_2418 : ftc (PT 420) 2418 = some (2418, .iload 5, 2, 0, 0, 0) := by decide +kernel
theorem f_420_2420 : ftc (PT 420) 2420 = some (2420, .ifCond .ne 14, 3, 2434, 0, 0) := by decide +kernel
theorem f_420_2423 : ftc (PT 420) 2423 = some (2423, .aload_n 3, 1, 0, 0, 0) := by decide +kernel
theorem f_420_2424 : ftc (PT 420) 2424 = some (2424, .iconst 0, 1, 0, 0, 0) := by decide +kernel
theorem f_420_2425 : ftc (PT 420) 2425 = some (2425, .laload, 1, 0, 0, 0) := by decide +kernel
theorem f_420_2426 : ftc (PT 420) 2426 = some (2426, .lload 6, 2, 0, 0, 0) := by decide +kernel
theorem f_420_2428 : ftc (PT 420) 2428 = some (2428, .lcmp, 1, 0, 0, 0) := by decide +kernel
theorem f_420_2429 : ftc (PT 420) 2429 = some (2429, .ifCond .eq 5, 3, 2434, 0, 0) := by decide +kernel
theorem f_420_2432 : ftc (PT 420) 2432 = some (2432, .iconst 0, 1, 0, 0, 0) := by decide +kernel
theorem f_420_2433 : ftc (PT 420) 2433 = some (2433, .ireturn, 1, 1, 0, 0) := by decide +kernel
theorem f_420_2434 : ftc (PT 420) 2434 = some (2434, .goto 2483, 3, 4917, 0, 0) := by decide +kernel
theorem f_420_2437 : ftc (PT 420) 2437 = some (2437, .aload_n 1, 1, 0, 0, 0) := by decide +kernel
theorem f_420_2438 : ftc (PT 420) 2438 = some (2438, .aload_n 0, 1, 0, 0, 0) := by decide +kernel
theorem f_420_2439 : ftc (PT 420) 2439 = some (2439, .iload 4, 2, 0, 0, 0) := by decide +kernel
theorem f_420_2441 : ftc (PT 420) 2441 = some (2441, .iconst 1, 1, 0, 0, 0) := by decide +kernel
theorem f_420_2442 : ftc (PT 420) 2442 = some (2442, .iadd, 1, 0, 0, 0) := by decide +kernel
theorem f_420_2443 : ftc (PT 420) 2443 = some (2443, .iaload, 1, 0, 0, 0) := by decide +kernel
theorem f_420_2444 : ftc (PT 420) 2444 = some (2444, .aload_n 0, 1, 0, 0, 0) := by decide +kernel
theorem f_420_2445 : ftc (PT 420) 2445 = some (2445, .iload 4, 2, 0, 0, 0) := by decide +kernel
theorem f_420_2447 : ftc (PT 420) 2447 = some (2447, .iconst 2, 1, 0, 0, 0) := by decide +kernel
theorem f_420_2448 : ftc (PT 420) 2448 = some (2448, .iadd, 1, 0, 0, 0) := by decide +kernel
theorem f_420_2449 : ftc (PT 420) 2449 = some (2449, .iaload, 1, 0, 0, 0) := by decide +kernel
theorem f_420_2450 : ftc (PT 420) 2450 = some (2450, .aload_n 0, 1, 0, 0, 0) := by decide +kernel
theorem f_420_2451 : ftc (PT 420) 2451 = some (2451, .iload 4, 2, 0, 0, 0) := by decide +kernel
theorem f_420_2453 : ftc (PT 420) 2453 = some (2453, .iconst 3, 1, 0, 0, 0) := by decide +kernel
theorem f_420_2454 : ftc (PT 420) 2454 = some (2454, .iadd, 1, 0, 0, 0) := by decide +kernel
theorem f_420_2455 : ftc (PT 420) 2455 = some (2455, .iaload, 1, 0, 0, 0) := by decide +kernel
theorem f_420_2456 : ftc (PT 420) 2456 = some (2456, .ifCond .eq 7, 3, 2463, 0, 0) := by decide +kernel
theorem f_420_2459 : ftc (PT 420) 2459 = some (2459, .iconst 1, 1, 0, 0, 0) := by decide +kernel
theorem f_420_2460 : ftc (PT 420) 2460 = some (2460, .goto 4, 3, 2464, 0, 0) := by decide +kernel
theorem f_420_2463 : ftc (PT 420) 2463 = some (2463, .iconst 0, 1, 0, 0, 0) := by decide +kernel
theorem f_420_2464 : ftc (PT 420) 2464 = some (2464, .aload_n 3, 1, 0, 0, 0) := by decide +kernel
theorem f_420_2465 : ftc (PT 420) 2465 = some (2465, .invokestatic 290, 3, 391, 6149, 1236) := by decide +kernel
theorem f_420_2468 : ftc (PT 420) 2468 = some (2468, .istore 5, 2, 0, 0, 0) := by decide +kernel
theorem f_420_2470 : ftc (PT 420) 2470 = some (2470, .aload_n 2, 1, 0, 0, 0) := by decide +kernel
theorem f_420_2471 : ftc (PT 420) 2471 = some (2471, .aload_n 0, 1, 0, 0, 0) := by decide +kernel
theorem f_420_2472 : ftc (PT 420) 2472 = some (2472, .iload 4, 2, 0, 0, 0) := by decide +kernel
theorem f_420_2474 : ftc (PT 420) 2474 = some (2474, .iconst 1, 1, 0, 0, 0) := by decide +kernel
theorem f_420_2475 : ftc (PT 420) 2475 = some (2475, .iadd, 1, 0, 0, 0) := by decide +kernel
theorem f_420_2476 : ftc (PT 420) 2476 = some (2476, .iaload, 1, 0, 0, 0) := by decide +kernel
theorem f_420_2477 : ftc (PT 420) 2477 = some (2477, .aload_n 0, 1, 0, 0, 0) := by decide +kernel
theorem f_420_2478 : ftc (PT 420) 2478 = some (2478, .iload 4, 2, 0, 0, 0) := by decide +kernel
theorem f_420_2480 : ftc (PT 420) 2480 = some (2480, .iconst 2, 1, 0, 0, 0) := by decide +kernel
theorem f_420_2481 : ftc (PT 420) 2481 = some (2481, .iadd, 1, 0, 0, 0) := by decide +kernel
theorem f_420_2482 : ftc (PT 420) 2482 = some (2482, .iaload, 1, 0, 0, 0) := by decide +kernel
theorem f_420_2483 : ftc (PT 420) 2483 = some (2483, .aload_n 0, 1, 0, 0, 0) := by decide +kernel
theorem f_420_2484 : ftc (PT 420) 2484 = some (2484, .iload 4, 2, 0, 0, 0) := by decide +kernel
theorem f_420_2486 : ftc (PT 420) 2486 = some (2486, .iconst 3, 1, 0, 0, 0) := by decide +kernel
theorem f_420_2487 : ftc (PT 420) 2487 = some (2487, .iadd, 1, 0, 0, 0) := by decide +kernel
theorem f_420_2488 : ftc (PT 420) 2488 = some (2488, .iaload, 1, 0, 0, 0) := by decide +kernel
theorem f_420_2489 : ftc (PT 420) 2489 = some (2489, .ifCond .eq 7, 3, 2496, 0, 0) := by decide +kernel
theorem f_420_2492 : ftc (PT 420) 2492 = some (2492, .iconst 1, 1, 0, 0, 0) := by decide +kernel
theorem f_420_2493 : ftc (PT 420) 2493 = some (2493, .goto 4, 3, 2497, 0, 0) := by decide +kernel
theorem f_420_2496 : ftc (PT 420) 2496 = some (2496, .iconst 0, 1, 0, 0, 0) := by decide +kernel
theorem f_420_2497 : ftc (PT 420) 2497 = some (2497, .invokevirtual 292, 3, 279, 4204, 2035) := by decide +kernel
theorem f_420_2500 : ftc (PT 420) 2500 = some (2500, .istore 6, 2, 0, 0, 0) := by decide +kernel
theorem f_420_2502 : ftc (PT 420) 2502 = some (2502, .aload_n 2, 1, 0, 0, 0) := by decide +kernel
theorem f_420_2503 : ftc (PT 420) 2503 = some (2503, .invokevirtual 202, 3, 212, 1036, 1769) := by decide +kernel
theorem f_420_2506 : ftc (PT 420) 2506 = some (2506, .iload 5, 2, 0, 0, 0) := by decide +kernel
theorem f_420_2508 : ftc (PT 420) 2508 = some (2508, .if_icmp .eq 5, 3, 2513, 0, 0) := by decide +kernel
theorem f_420_2511 : ftc (PT 420) 2511 = some (2511, .iconst 0, 1, 0, 0, 0) := by decide +kernel
theorem f_420_2512 : ftc (PT 420) 2512 = some (2512, .ireturn, 1, 1, 0, 0) := by decide +kernel
theorem f_420_2513 : ftc (PT 420) 2513 = some (2513, .iload 5, 2, 0, 0, 0) := by decide +kernel
theorem f_420_2515 : ftc (PT 420) 2515 = some (2515, .ifCond .ne 15, 3, 2530, 0, 0) := by decide +kernel
theorem f_420_2518 : ftc (PT 420) 2518 = some (2518, .aload_n 3, 1, 0, 0, 0) := by decide +kernel
theorem f_420_2519 : ftc (PT 420) 2519 = some (2519, .iconst 0, 1, 0, 0, 0) := by decide +kernel
theorem f_420_2520 : ftc (PT 420) 2520 = some (2520, .laload, 1, 0, 0, 0) := by decide +kernel
theorem f_420_2521 : ftc (PT 420) 2521 = some (2521, .iload 6, 2, 0, 0, 0) := by decide +kernel
theorem f_420_2523 : ftc (PT 420) 2523 = some (2523, .i2l, 1, 0, 0, 0) := by decide +kernel
theorem f_420_2524 : ftc (PT 420) 2524 = some (2524, .lcmp, 1, 0, 0, 0) := by decide +kernel
theorem f_420_2525 : ftc (PT 420) 2525 = some (2525, .ifCond .eq 5, 3, 2530, 0, 0) := by decide +kernel
theorem f_420_2528 : ftc (PT 420) 2528 = some (2528, .iconst 0, 1, 0, 0, 0) := by decide +kernel
theorem f_420_2529 : ftc (PT 420) 2529 = some (2529, .ireturn, 1, 1, 0, 0) := by decide +kernel
theorem f_420_2530 : ftc (PT 420) 2530 = some (2530, .goto 2387, 3, 4917, 0, 0) := by decide +kernel
theorem f_420_2533 : ftc (PT 420) 2533 = some (2533, .aload_n 1, 1, 0, 0, 0) := by decide +kernel
theorem f_420_2534 : ftc (PT 420) 2534 = some (2534, .aload_n 0, 1, 0, 0, 0) := by decide +kernel
theorem f_420_2535 : ftc (PT 420) 2535 = some (2535, .iload 4, 2, 0, 0, 0) := by decide +kernel
theorem f_420_2537 : ftc (PT 420) 2537 = some (2537, .iconst 1, 1, 0, 0, 0) := by decide +kernel
theorem f_420_2538 : ftc (PT 420) 2538 = some (2538, .iadd, 1, 0, 0, 0) := by decide +kernel
theorem f_420_2539 : ftc (PT 420) 2539 = some (2539, .iaload, 1, 0, 0, 0) := by decide +kernel
theorem f_420_2540 : ftc (PT 420) 2540 = some (2540, .aload_n 0, 1, 0, 0, 0) := by decide +kernel
theorem f_420_2541 : ftc (PT 420) 2541 = some (2541, .iload 4, 2, 0, 0, 0) := by decide +kernel
theorem f_420_2543 : ftc (PT 420) 2543 = some (2543, .iconst 2, 1, 0, 0, 0) := by decide +kernel
theorem f_420_2544 : ftc (PT 420) 2544 = some (2544, .iadd, 1, 0, 0, 0) := by decide +kernel
theorem f_420_2545 : ftc (PT 420) 2545 = some (2545, .iaload, 1, 0, 0, 0) := by decide +kernel
theorem f_420_2546 : ftc (PT 420) 2546 = some (2546, .ifCond .eq 7, 3, 2553, 0, 0) := by decide +kernel
theorem f_420_2549 : ftc (PT 420) 2549 = some (2549, .iconst 1, 1, 0, 0, 0) := by decide +kernel
theorem f_420_2550 : ftc (PT 420) 2550 = some (2550, .goto 4, 3, 2554, 0, 0) := by decide +kernel
theorem f_420_2553 : ftc (PT 420) 2553 = some (2553, .iconst 0, 1, 0, 0, 0) := by decide +kernel
theorem f_420_2554 : ftc (PT 420) 2554 = some (2554, .aload_n 0, 1, 0, 0, 0) := by decide +kernel
theorem f_420_2555 : ftc (PT 420) 2555 = some (2555, .iload 4, 2, 0, 0, 0) := by decide +kernel
theorem f_420_2557 : ftc (PT 420) 2557 = some (2557, .iconst 3, 1, 0, 0, 0) := by decide +kernel
theorem f_420_2558 : ftc (PT 420) 2558 = some (2558, .iadd, 1, 0, 0, 0) := by decide +kernel
theorem f_420_2559 : ftc (PT 420) 2559 = some (2559, .iaload, 1, 0, 0, 0) := by decide +kernel
theorem f_420_2560 : ftc (PT 420) 2560 = some (2560, .aload_n 0, 1, 0, 0, 0) := by decide +kernel
theorem f_420_2561 : ftc (PT 420) 2561 = some (2561, .iload 4, 2, 0, 0, 0) := by decide +kernel
theorem f_420_2563 : ftc (PT 420) 2563 = some (2563, .iconst 4, 1, 0, 0, 0) := by decide +kernel
theorem f_420_2564 : ftc (PT 420) 2564 = some (2564, .iadd, 1, 0, 0, 0) := by decide +kernel
theorem f_420_2565 : ftc (PT 420) 2565 = some (2565, .iaload, 1, 0, 0, 0) := by decide +kernel
theorem f_420_2566 : ftc (PT 420) 2566 = some (2566, .aload_n 3, 1, 0, 0, 0) := by decide +kernel
theorem f_420_2567 : ftc (PT 420) 2567 = some (2567, .invokestatic 293, 3, 392, 7174, 1247) := by decide +kernel
theorem f_420_2570 : ftc (PT 420) 2570 = some (2570, .istore 5, 2, 0, 0, 0) := by decide +kernel
theorem f_420_2572 : ftc (PT 420) 2572 = some (2572, .aload_n 2, 1, 0, 0, 0) := by decide +kernel
theorem f_420_2573 : ftc (PT 420) 2573 = some (2573, .aload_n 0, 1, 0, 0, 0) := by decide +kernel
theorem f_420_2574 : ftc (PT 420) 2574 = some (2574, .iload 4, 2, 0, 0, 0) := by decide +kernel
theorem f_420_2576 : ftc (PT 420) 2576 = some (2576, .iconst 1, 1, 0, 0, 0) := by decide +kernel
theorem f_420_2577 : ftc (PT 420) 2577 = some (2577, .iadd, 1, 0, 0, 0) := by decide +kernel
theorem f_420_2578 : ftc (PT 420) 2578 = some (2578, .iaload, 1, 0, 0, 0) := by decide +kernel
theorem f_420_2579 : ftc (PT 420) 2579 = some (2579, .aload_n 0, 1, 0, 0, 0) := by decide +kernel
theorem f_420_2580 : ftc (PT 420) 2580 = some (2580, .iload 4, 2, 0, 0, 0) := by decide +kernel
theorem f_420_2582 : ftc (PT 420) 2582 = some (2582, .iconst 2, 1, 0, 0, 0) := by decide +kernel
theorem f_420_2583 : ftc (PT 420) 2583 = some (2583, .iadd, 1, 0, 0, 0) := by decide +kernel
theorem f_420_2584 : ftc (PT 420) 2584 = some (2584, .iaload, 1, 0, 0, 0) := by decide +kernel
theorem f_420_2585 : ftc (PT 420) 2585 = some (2585, .ifCond .eq 7, 3, 2592, 0, 0) := by decide +kernel
theorem f_420_2588 : ftc (PT 420) 2588 = some (2588, .iconst 1, 1, 0, 0, 0) := by decide +kernel
theorem f_420_2589 : ftc (PT 420) 2589 = some (2589, .goto 4, 3, 2593, 0, 0) := by decide +kernel
theorem f_420_2592 : ftc (PT 420) 2592 = some (2592, .iconst 0, 1, 0, 0, 0) := by decide +kernel
theorem f_420_2593 : ftc (PT 420) 2593 = some (2593, .aload_n 0, 1, 0, 0, 0) := by decide +kernel
theorem f_420_2594 : ftc (PT 420) 2594 = some (2594, .iload 4, 2, 0, 0, 0) := by decide +kernel
theorem f_420_2596 : ftc (PT 420) 2596 = some (2596, .iconst 3, 1, 0, 0, 0) := by decide +kernel
theorem f_420_2597 : ftc (PT 420) 2597 = some (2597, .iadd, 1, 0, 0, 0) := by decide +kernel
theorem f_420_2598 : ftc (PT 420) 2598 = some (2598, .iaload, 1, 0, 0, 0) := by decide +kernel
theorem f_420_2599 : ftc (PT 420) 2599 = some (2599, .aload_n 0, 1, 0, 0, 0) := by decide +kernel
theorem f_420_2600 : ftc (PT 420) 2600 = some (2600, .iload 4, 2, 0, 0, 0) := by decide +kernel
theorem f_420_2602 : ftc (PT 420) 2602 = some (2602, .iconst 4, 1, 0, 0, 0) := by decide +kernel
theorem f_420_2603 : ftc (PT 420) 2603 = some (2603, .iadd, 1, 0, 0, 0) := by decide +kernel
theorem f_420_2604 : ftc (PT 420) 2604 = some (2604, .iaload, 1, 0, 0, 0) := by decide +kernel
theorem f_420_2605 : ftc (PT 420) 2605 = some (2605, .invokevirtual 296, 3, 281, 5260, 2042) := by decide +kernel
theorem f_420_2608 : ftc (PT 420) 2608 = some (2608, .istore 6, 2, 0, 0, 0) := by decide +kernel
theorem f_420_2610 : ftc (PT 420) 2610 = some (2610, .aload_n 2, 1, 0, 0, 0) := by decide +kernel
theorem f_420_2611 : ftc (PT 420) 2611 = some (2611, .invokevirtual 202, 3, 212, 1036, 1769) := by decide +kernel
theorem f_420_2614 : ftc (PT 420) 2614 = some (2614, .iload 5, 2, 0, 0, 0) := by decide +kernel
theorem f_420_2616 : ftc (PT 420) 2616 = some (2616, .if_icmp .eq 5, 3, 2621, 0, 0) := by decide +kernel
theorem f_420_2619 : ftc (PT 420) 2619 = some (2619, .iconst 0, 1, 0, 0, 0) := by decide +kernel
theorem f_420_2620 : ftc (PT 420) 2620 = some (2620, .ireturn, 1, 1, 0, 0) := by decide +kernel
theorem f_420_2621 : ftc (PT 420) 2621 = some (2621, .iload 5, 2, 0, 0, 0) := by decide +kernel
theorem f_420_2623 : ftc (PT 420) 2623 = some (2623, .ifCond .ne 15, 3, 2638, 0, 0) := by decide +kernel
theorem f_420_2626 : ftc (PT 420) 2626 = some (2626, .aload_n 3, 1, 0, 0, 0) := by decide +kernel
theorem f_420_2627 : ftc (PT 420) 2627 = some (2627, .iconst 0, 1, 0, 0, 0) := by decide +kernel
theorem f_420_2628 : ftc (PT 420) 2628 = some (2628, .laload, 1, 0, 0, 0) := by decide +kernel
theorem f_420_2629 : ftc (PT 420) 2629 = some (2629, .iload 6, 2, 0, 0, 0) := by decide +kernel
theorem f_420_2631 : ftc (PT 420) 2631 = some (2631, .i2l, 1, 0, 0, 0) := by decide +kernel
theorem f_420_2632 : ftc (PT 420) 2632 = some (2632, .lcmp, 1, 0, 0, 0) := by decide +kernel
theorem f_420_2633 : ftc (PT 420) 2633 = some (2633, .ifCond .eq 5, 3, 2638, 0, 0) := by decide +kernel
theorem f_420_2636 : ftc (PT 420) 2636 = some (2636, .iconst 0, 1, 0, 0, 0) := by decide +kernel
theorem f_420_2637 : ftc (PT 420) 2637 = some (2637, .ireturn, 1, 1, 0, 0) := by decide +kernel
theorem f_420_2638 : ftc (PT 420) 2638 = some (2638, .goto 2279, 3, 4917, 0, 0) := by decide +kernel
theorem f_420_2641 : ftc (PT 420) 2641 = some (2641, .aload_n 1, 1, 0, 0, 0) := by decide +kernel
theorem f_420_2642 : ftc (PT 420) 2642 = some (2642, .aload_n 0, 1, 0, 0, 0) := by decide +kernel
theorem f_420_2643 : ftc (PT 420) 2643 = some (2643, .iload 4, 2, 0, 0, 0) := by decide +kernel
theorem f_420_2645 : ftc (PT 420) 2645 = some (2645, .iconst 1, 1, 0, 0, 0) := by decide +kernel
theorem f_420_2646 : ftc (PT 420) 2646 = some (2646, .iadd, 1, 0, 0, 0) := by decide +kernel
theorem f_420_2647 : ftc (PT 420) 2647 = some (2647, .iaload, 1, 0, 0, 0) := by decide +kernel
theorem f_420_2648 : ftc (PT 420) 2648 = some (2648, .aload_n 0, 1, 0, 0, 0) := by decide +kernel
theorem f_420_2649 : ftc (PT 420) 2649 = some (2649, .iload 4, 2, 0, 0, 0) := by decide +kernel
theorem f_420_2651 : ftc (PT 420) 2651 = some (2651, .iconst 2, 1, 0, 0, 0) := by decide +kernel
theorem f_420_2652 : ftc (PT 420) 2652 = some (2652, .iadd, 1, 0, 0, 0) := by decide +kernel
theorem f_420_2653 : ftc (PT 420) 2653 = some (2653, .iaload, 1, 0, 0, 0) := by decide +kernel
theorem f_420_2654 : ftc (PT 420) 2654 = some (2654, .ifCond .eq 7, 3, 2661, 0, 0) := by decide +kernel
theorem f_420_2657 : ftc (PT 420) 2657 = some (2657, .iconst 1, 1, 0, 0, 0) := by decide +kernel
theorem f_420_2658 : ftc (PT 420) 2658 = some (2658, .goto 4, 3, 2662, 0, 0) := by decide +kernel
theorem f_420_2661 : ftc (PT 420) 2661 = some (2661, .iconst 0, 1, 0, 0, 0) := by decide +kernel
theorem f_420_2662 : ftc (PT 420) 2662 = some (2662, .aload_n 0, 1, 0, 0, 0) := by decide +kernel
theorem f_420_2663 : ftc (PT 420) 2663 = some (2663, .iload 4, 2, 0, 0, 0) := by decide +kernel
theorem f_420_2665 : ftc (PT 420) 2665 = some (2665, .iconst 3, 1, 0, 0, 0) := by decide +kernel
theorem f_420_2666 : ftc (PT 420) 2666 = some (2666, .iadd, 1, 0, 0, 0) := by decide +kernel
theorem f_420_2667 : ftc (PT 420) 2667 = some (2667, .iaload, 1, 0, 0, 0) := by decide +kernel
theorem f_420_2668 : ftc (PT 420) 2668 = some (2668, .aload_n 0, 1, 0, 0, 0) := by decide +kernel
theorem f_420_2669 : ftc (PT 420) 2669 = some (2669, .iload 4, 2, 0, 0, 0) := by decide +kernel
theorem f_420_2671 : ftc (PT 420) 2671 = some (2671, .iconst 4, 1, 0, 0, 0) := by decide +kernel
theorem f_420_2672 : ftc (PT 420) 2672 = some (2672, .iadd, 1, 0, 0, 0) := by decide +kernel
theorem f_420_2673 : ftc (PT 420) 2673 = some (2673, .iaload, 1, 0, 0, 0) := by decide +kernel
theorem f_420_2674 : ftc (PT 420) 2674 = some (2674, .aload_n 0, 1, 0, 0, 0) := by decide +kernel
theorem f_420_2675 : ftc (PT 420) 2675 = some (2675, .iload 4, 2, 0, 0, 0) := by decide +kernel
theorem f_420_2677 : ftc (PT 420) 2677 = some (2677, .iconst 5, 1, 0, 0, 0) := by decide +kernel
theorem f_420_2678 : ftc (PT 420) 2678 = some (2678, .iadd, 1, 0, 0, 0) := by decide +kernel
theorem f_420_2679 : ftc (PT 420) 2679 = some (2679, .iaload, 1, 0, 0, 0) := by decide +kernel
theorem f_420_2680 : ftc (PT 420) 2680 = some (2680, .aload_n 0, 1, 0, 0, 0) := by decide +kernel
theorem f_420_2681 : ftc (PT 420) 2681 = some (2681, .iload 4, 2, 0, 0, 0) := by decide +kernel
theorem f_420_2683 : ftc (PT 420) 2683 = some (2683, .bipush 6, 2, 0, 0, 0) := by decide +kernel
theorem f_420_2685 : ftc (PT 420) 2685 = some (2685, .iadd, 1, 0, 0, 0) := by decide +kernel
theorem f_420_2686 : ftc (PT 420) 2686 = some (2686, .iaload, 1, 0, 0, 0) := by decide +kernel
theorem f_420_2687 : ftc (PT 420) 2687 = some (2687, .ifCond .eq 7, 3, 2694, 0, 0) := by decide +kernel
theorem f_420_2690 : ftc (PT 420) 2690 = some (2690, .iconst 1, 1, 0, 0, 0) := by decide +kernel
theorem f_420_2691 : ftc (PT 420) 2691 = some (2691, .goto 4, 3, 2695, 0, 0) := by decide +kernel
theorem f_420_2694 : ftc (PT 420) 2694 = some (2694, .iconst 0, 1, 0, 0, 0) := by decide +kernel
theorem f_420_2695 : ftc (PT 420) 2695 = some (2695, .aload_n 0, 1, 0, 0, 0) := by decide +kernel
theorem f_420_2696 : ftc (PT 420) 2696 = some (2696, .iload 4, 2, 0, 0, 0) := by decide +kernel
theorem f_420_2698 : ftc (PT 420) 2698 = some (2698, .bipush 7, 2, 0, 0, 0) := by decide +kernel
theorem f_420_2700 : ftc (PT 420) 2700 = some (2700, .iadd, 1, 0, 0, 0) := by decide +kernel
theorem f_420_2701 : ftc (PT 420) 2701 = some (2701, .iaload, 1, 0, 0, 0) := by decide +kernel
theorem f_420_2702 : ftc (PT 420) 2702 = some (2702, .ifCond .eq 7, 3, 2709, 0, 0) := by decide +kernel
theorem f_420_2705 : ftc (PT 420) 2705 = some (2705, .iconst 1, 1, 0, 0, 0) := by decide +kernel
theorem f_420_2706 : ftc (PT 420) 2706 = some (2706, .goto 4, 3, 2710, 0, 0) := by decide +kernel
theorem f_420_2709 : ftc (PT 420) 2709 = some (2709, .iconst 0, 1, 0, 0, 0) := by decide +kernel
theorem f_420_2710 : ftc (PT 420) 2710 = some (2710, .aload_n 3, 1, 0, 0, 0) := by decide +kernel
theorem f_420_2711 : ftc (PT 420) 2711 = some (2711, .invokestatic 297, 3, 393, 10249, 1260) := by decide +kernel
theorem f_420_2714 : ftc (PT 420) 2714 = some (2714, .istore 5, 2, 0, 0, 0) := by decide +kernel
theorem f_420_2716 : ftc (PT 420) 2716 = some (2716, .aload_n 2, 1, 0, 0, 0) := by decide +kernel
theorem f_420_2717 : ftc (PT 420) 2717 = some (2717, .aload_n 0, 1, 0, 0, 0) := by decide +kernel
theorem f_420_2718 : ftc (PT 420) 2718 = some (2718, .iload 4, 2, 0, 0, 0) := by decide +kernel
theorem f_420_2720 : ftc (PT 420) 2720 = some (2720, .iconst 1, 1, 0, 0, 0) := by decide +kernel
theorem f_420_2721 : ftc (PT 420) 2721 = some (2721, .iadd, 1, 0, 0, 0) := by decide +kernel
theorem f_420_2722 : ftc (PT 420) 2722 = some (2722, .iaload, 1, 0, 0, 0) := by decide +kernel
theorem f_420_2723 : ftc (PT 420) 2723 = some (2723, .aload_n 0, 1, 0, 0, 0) := by decide +kernel
theorem f_420_2724 : ftc (PT 420) 2724 = some (2724, .iload 4, 2, 0, 0, 0) := by decide +kernel
theorem f_420_2726 : ftc (PT 420) 2726 = some (2726, .iconst 2, 1, 0, 0, 0) := by decide +kernel
theorem f_420_2727 : ftc (PT 420) 2727 = some (2727, .iadd, 1, 0, 0, 0) := by decide +kernel
theorem f_420_2728 : ftc (PT 420) 2728 = some (2728, .iaload, 1, 0, 0, 0) := by decide +kernel
theorem f_420_2729 : ftc (PT 420) 2729 = some (2729, .ifCond .eq 7, 3, 2736, 0, 0) := by decide +kernel
theorem f_420_2732 : ftc (PT 420) 2732 = some (2732, .iconst 1, 1, 0, 0, 0) := by decide +kernel
theorem f_420_2733 : ftc (PT 420) 2733 = some (2733, .goto 4, 3, 2737, 0, 0) := by decide +kernel
theorem f_420_2736 : ftc (PT 420) 2736 = some (2736, .iconst 0, 1, 0, 0, 0) := by decide +kernel
theorem f_420_2737 : ftc (PT 420) 2737 = some (2737, .aload_n 0, 1, 0, 0, 0) := by decide +kernel
theorem f_420_2738 : ftc (PT 420) 2738 = some (2738, .iload 4, 2, 0, 0, 0) := by decide +kernel
theorem f_420_2740 : ftc (PT 420) 2740 = some (2740, .iconst 3, 1, 0, 0, 0) := by decide +kernel
theorem f_420_2741 : ftc (PT 420) 2741 = some (2741, .iadd, 1, 0, 0, 0) := by decide +kernel
theorem f_420_2742 : ftc (PT 420) 2742 = some (2742, .iaload, 1, 0, 0, 0) := by decide +kernel
theorem f_420_2743 : ftc (PT 420) 2743 = some (2743, .aload_n 0, 1, 0, 0, 0) := by decide +kernel
theorem f_420_2744 : ftc (PT 420) 2744 = some (2744, .iload 4, 2, 0, 0, 0) := by decide +kernel
theorem f_420_2746 : ftc (PT 420) 2746 = some (2746, .iconst 4, 1, 0, 0, 0) := by decide +kernel
theorem f_420_2747 : ftc (PT 420) 2747 = some (2747, .iadd, 1, 0, 0, 0) := by decide +kernel
theorem f_420_2748 : ftc (PT 420) 2748 = some (2748, .iaload, 1, 0, 0, 0) := by decide +kernel
theorem f_420_2749 : ftc (PT 420) 2749 = some (2749, .aload_n 0, 1, 0, 0, 0) := by decide +kernel
theorem f_420_2750 : ftc (PT 420) 2750 = some (2750, .iload 4, 2, 0, 0, 0) := by decide +kernel
theorem f_420_2752 : ftc (PT 420) 2752 = some (2752, .iconst 5, 1, 0, 0, 0) := by decide +kernel
theorem f_420_2753 : ftc (PT 420) 2753 = some (2753, .iadd, 1, 0, 0, 0) := by decide +kernel
theorem f_420_2754 : ftc (PT 420) 2754 = some (2754, .iaload, 1, 0, 0, 0) := by decide +kernel
theorem f_420_2755 : ftc (PT 420) 2755 = some (2755, .aload_n 0, 1, 0, 0, 0) := by decide +kernel
theorem f_420_2756 : ftc (PT 420) 2756 = some (2756, .iload 4, 2, 0, 0, 0) := by decide +kernel
theorem f_420_2758 : ftc (PT 420) 2758 = some (2758, .bipush 6, 2, 0, 0, 0) := by decide +kernel
theorem f_420_2760 : ftc (PT 420) 2760 = some (2760, .iadd, 1, 0, 0, 0) := by decide +kernel
theorem f_420_2761 : ftc (PT 420) 2761 = some (2761, .iaload, 1, 0, 0, 0) := by decide +kernel
theorem f_420_2762 : ftc (PT 420) 2762 = some (2762, .ifCond .eq 7, 3, 2769, 0, 0) := by decide +kernel
theorem f_420_2765 : ftc (PT 420) 2765 = some (2765, .iconst 1, 1, 0, 0, 0) := by decide +kernel
theorem f_420_2766 : ftc (PT 420) 2766 = some (2766, .goto 4, 3, 2770, 0, 0) := by decide +kernel
theorem f_420_2769 : ftc (PT 420) 2769 = some (2769, .iconst 0, 1, 0, 0, 0) := by decide +kernel
theorem f_420_2770 : ftc (PT 420) 2770 = some (2770, .aload_n 0, 1, 0, 0, 0) := by decide +kernel
theorem f_420_2771 : ftc (PT 420) 2771 = some (2771, .iload 4, 2, 0, 0, 0) := by decide +kernel
theorem f_420_2773 : ftc (PT 420) 2773 = some (2773, .bipush 7, 2, 0, 0, 0) := by decide +kernel
theorem f_420_2775 : ftc (PT 420) 2775 = some (2775, .iadd, 1, 0, 0, 0) := by decide +kernel
theorem f_420_2776 : ftc (PT 420) 2776 = some (2776, .iaload, 1, 0, 0, 0) := by decide +kernel
theorem f_420_2777 : ftc (PT 420) 2777 = some (2777, .ifCond .eq 7, 3, 2784, 0, 0) := by decide +kernel
theorem f_420_2780 : ftc (PT 420) 2780 = some (2780, .iconst 1, 1, 0, 0, 0) := by decide +kernel
theorem f_420_2781 : ftc (PT 420) 2781 = some (2781, .goto 4, 3, 2785, 0, 0) := by decide +kernel
theorem f_420_2784 : ftc (PT 420) 2784 = some (2784, .iconst 0, 1, 0, 0, 0) := by decide +kernel
theorem f_420_2785 : ftc (PT 420) 2785 = some (2785, .invokevirtual 300, 3, 285, 8428, 2058) := by decide +kernel
theorem f_420_2788 : ftc (PT 420) 2788 = some (2788, .lstore 6, 2, 0, 0, 0) := by decide +kernel
theorem f_420_2790 : ftc (PT 420) 2790 = some (2790, .aload_n 2, 1, 0, 0, 0) := by decide +kernel
theorem f_420_2791 : ftc (PT 420) 2791 = some (2791, .invokevirtual 202, 3, 212, 1036, 1769) := by decide +kernel
theorem f_420_2794 : ftc (PT 420) 2794 = some (2794, .iload 5, 2, 0, 0, 0) := by decide +kernel
theorem f_420_2796 : ftc (PT 420) 2796 = some (2796, .if_icmp .eq 5, 3, 2801, 0, 0) := by decide +kernel
theorem f_420_2799 : ftc (PT 420) 2799 = some (2799, .iconst 0, 1, 0, 0, 0) := by decide +kernel
theorem f_420_2800 : ftc (PT 420) 2800 = some (2800, .ireturn, 1, 1, 0, 0) := by decide +kernel
theorem f_420_2801 : ftc (PT 420) 2801 = some (2801, .iload 5, 2, 0, 0, 0) := by decide +kernel
theorem f_420_2803 : ftc (PT 420) 2803 = some (2803, .ifCond .ne 14, 3, 2817, 0, 0) := by decide +kernel
theorem f_420_2806 : ftc (PT 420) 2806 = some (2806, .aload_n 3, 1, 0, 0, 0) := by decide +kernel
theorem f_420_2807 : ftc (PT 420) 2807 = some (2807, .iconst 0, 1, 0, 0, 0) := by decide +kernel
theorem f_420_2808 : ftc (PT 420) 2808 = some (2808, .laload, 1, 0, 0, 0) := by decide +kernel
theorem f_420_2809 : ftc (PT 420) 2809 = some (2809, .lload 6, 2, 0, 0, 0) := by decide +kernel
theorem f_420_2811 : ftc (PT 420) 2811 = some (2811, .lcmp, 1, 0, 0, 0) := by decide +kernel
theorem f_420_2812 : ftc (PT 420) 2812 = some (2812, .ifCond .eq 5, 3, 2817, 0, 0) := by decide +kernel
theorem f_420_2815 : ftc (PT 420) 2815 = some (2815, .iconst 0, 1, 0, 0, 0) := by decide +kernel
theorem f_420_2816 : ftc (PT 420) 2816 = some (2816, .ireturn, 1, 1, 0, 0) := by decide +kernel
theorem f_420_2817 : ftc (PT 420) 2817 = some (2817, .goto 2100, 3, 4917, 0, 0) := by decide +kernel
theorem f_420_2820 : ftc (PT 420) 2820 = some (2820, .aload_n 1, 1, 0, 0, 0) := by decide +kernel
theorem f_420_2821 : ftc (PT 420) 2821 = some (2821, .aload_n 0, 1, 0, 0, 0) := by decide +kernel
theorem f_420_2822 : ftc (PT 420) 2822 = some (2822, .iload 4, 2, 0, 0, 0) := by decide +kernel
theorem f_420_2824 : ftc (PT 420) 2824 = some (2824, .iconst 1, 1, 0, 0, 0) := by decide +kernel
theorem f_420_2825 : ftc (PT 420) 2825 = some (2825, .iadd, 1, 0, 0, 0) := by decide +kernel
theorem f_420_2826 : ftc (PT 420) 2826 = some (2826, .iaload, 1, 0, 0, 0) := by decide +kernel
theorem f_420_2827 : ftc (PT 420) 2827 = some (2827, .aload_n 0, 1, 0, 0, 0) := by decide +kernel
theorem f_420_2828 : ftc (PT 420) 2828 = some (2828, .iload 4, 2, 0, 0, 0) := by decide +kernel
theorem f_420_2830 : ftc (PT 420) 2830 = some (2830, .iconst 2, 1, 0, 0, 0) := by decide +kernel
theorem f_420_2831 : ftc (PT 420) 2831 = some (2831, .iadd, 1, 0, 0, 0) := by decide +kernel
theorem f_420_2832 : ftc (PT 420) 2832 = some (2832, .iaload, 1, 0, 0, 0) := by decide +kernel
theorem f_420_2833 : ftc (PT 420) 2833 = some (2833, .ifCond .eq 7, 3, 2840, 0, 0) := by decide +kernel
theorem f_420_2836 : ftc (PT 420) 2836 = some (2836, .iconst 1, 1, 0, 0, 0) := by decide +kernel
theorem f_420_2837 : ftc (PT 420) 2837 = some (2837, .goto 4, 3, 2841, 0, 0) := by decide +kernel
theorem f_420_2840 : ftc (PT 420) 2840 = some (2840, .iconst 0, 1, 0, 0, 0) := by decide +kernel
theorem f_420_2841 : ftc (PT 420) 2841 = some (2841, .aload_n 0, 1, 0, 0, 0) := by decide +kernel
theorem f_420_2842 : ftc (PT 420) 2842 = some (2842, .iload 4, 2, 0, 0, 0) := by decide +kernel
theorem f_420_2844 : ftc (PT 420) 2844 = some (2844, .iconst 3, 1, 0, 0, 0) := by decide +kernel
theorem f_420_2845 : ftc (PT 420) 2845 = some (2845, .iadd, 1, 0, 0, 0) := by decide +kernel
theorem f_420_2846 : ftc (PT 420) 2846 = some (2846, .iaload, 1, 0, 0, 0) := by decide +kernel
theorem f_420_2847 : ftc (PT 420) 2847 = some (2847, .aload_n 0, 1, 0, 0, 0) := by decide +kernel
theorem f_420_2848 : ftc (PT 420) 2848 = some (2848, .iload 4, 2, 0, 0, 0) := by decide +kernel
theorem f_420_2850 : ftc (PT 420) 2850 = some (2850, .iconst 4, 1, 0, 0, 0) := by decide +kernel
theorem f_420_2851 : ftc (PT 420) 2851 = some (2851, .iadd, 1, 0, 0, 0) := by decide +kernel
theorem f_420_2852 : ftc (PT 420) 2852 = some (2852, .iaload, 1, 0, 0, 0) := by decide +kernel
theorem f_420_2853 : ftc (PT 420) 2853 = some (2853, .aload_n 0, 1, 0, 0, 0) := by decide +kernel
theorem f_420_2854 : ftc (PT 420) 2854 = some (2854, .iload 4, 2, 0, 0, 0) := by decide +kernel
theorem f_420_2856 : ftc (PT 420) 2856 = some (2856, .iconst 5, 1, 0, 0, 0) := by decide +kernel
theorem f_420_2857 : ftc (PT 420) 2857 = some (2857, .iadd, 1, 0, 0, 0) := by decide +kernel
theorem f_420_2858 : ftc (PT 420) 2858 = some (2858, .iaload, 1, 0, 0, 0) := by decide +kernel
theorem f_420_2859 : ftc (PT 420) 2859 = some (2859, .ifCond .eq 7, 3, 2866, 0, 0) := by decide +kernel
theorem f_420_2862 : ftc (PT 420) 2862 = some (2862, .iconst 1, 1, 0, 0, 0) := by decide +kernel
theorem f_420_2863 : ftc (PT 420) 2863 = some (2863, .goto 4, 3, 2867, 0, 0) := by decide +kernel
theorem f_420_2866 : ftc (PT 420) 2866 = some (2866, .iconst 0, 1, 0, 0, 0) := by decide +kernel
theorem f_420_2867 : ftc (PT 420) 2867 = some (2867, .aload_n 3, 1, 0, 0, 0) := by decide +kernel
theorem f_420_2868 : ftc (PT 420) 2868 = some (2868, .invokestatic 301, 3, 394, 8199, 1284) := by decide +kernel
theorem f_420_2871 : ftc (PT 420) 2871 = some (2871, .istore 5, 2, 0, 0, 0) := by decide +kernel
theorem f_420_2873 : ftc (PT 420) 2873 = some (2873, .aload_n 2, 1, 0, 0, 0) := by decide +kernel
theorem f_420_2874 : ftc (PT 420) 2874 = some (2874, .aload_n 0, 1, 0, 0, 0) := by decide +kernel
theorem f_420_2875 : ftc (PT 420) 2875 = some (2875, .iload 4, 2, 0, 0, 0) := by decide +kernel
theorem f_420_2877 : ftc (PT 420) 2877 = some (2877, .iconst 1, 1, 0, 0, 0) := by decide +kernel
theorem f_420_2878 : ftc (PT 420) 2878 = some (2878, .iadd, 1, 0, 0, 0) := by decide +kernel
theorem f_420_2879 : ftc (PT 420) 2879 = some (2879, .iaload, 1, 0, 0, 0) := by decide +kernel
theorem f_420_2880 : ftc (PT 420) 2880 = some (2880, .aload_n 0, 1, 0, 0, 0) := by decide +kernel
theorem f_420_2881 : ftc (PT 420) 2881 = some (2881, .iload 4, 2, 0, 0, 0) := by decide +kernel
theorem f_420_2883 : ftc (PT 420) 2883 = some (2883, .iconst 2, 1, 0, 0, 0) := by decide +kernel
theorem f_420_2884 : ftc (PT 420) 2884 = some (2884, .iadd, 1, 0, 0, 0) := by decide +kernel
theorem f_420_2885 : ftc (PT 420) 2885 = some (2885, .iaload, 1, 0, 0, 0) := by decide +kernel
theorem f_420_2886 : ftc (PT 420) 2886 = some (2886, .ifCond .eq 7, 3, 2893, 0, 0) := by decide +kernel
theorem f_420_2889 : ftc (PT 420) 2889 = some (2889, .iconst 1, 1, 0, 0, 0) := by decide +kernel
theorem f_420_2890 : ftc (PT 420) 2890 = some (2890, .goto 4, 3, 2894, 0, 0) := by decide +kernel
theorem f_420_2893 : ftc (PT 420) 2893 = some (2893, .iconst 0, 1, 0, 0, 0) := by decide +kernel
theorem f_420_2894 : ftc (PT 420) 2894 = some (2894, .aload_n 0, 1, 0, 0, 0) := by decide +kernel
theorem f_420_2895 : ftc (PT 420) 2895 = some (2895, .iload 4, 2, 0, 0, 0) := by decide +kernel
theorem f_420_2897 : ftc (PT 420) 2897 = some (2897, .iconst 3, 1, 0, 0, 0) := by decide +kernel
theorem f_420_2898 : ftc (PT 420) 2898 = some (2898, .iadd, 1, 0, 0, 0) := by decide +kernel
theorem f_420_2899 : ftc (PT 420) 2899 = some (2899, .iaload, 1, 0, 0, 0) := by decide +kernel
theorem f_420_2900 : ftc (PT 420) 2900 = some (2900, .aload_n 0, 1, 0, 0, 0) := by decide +kernel
theorem f_420_2901 : ftc (PT 420) 2901 = some (2901, .iload 4, 2, 0, 0, 0) := by decide +kernel
theorem f_420_2903 : ftc (PT 420) 2903 = some (2903, .iconst 4, 1, 0, 0, 0) := by decide +kernel
theorem f_420_2904 : ftc (PT 420) 2904 = some (2904, .iadd, 1, 0, 0, 0) := by decide +kernel
theorem f_420_2905 : ftc (PT 420) 2905 = some (2905, .iaload, 1, 0, 0, 0) := by decide +kernel
theorem f_420_2906 : ftc (PT 420) 2906 = some (2906, .aload_n 0, 1, 0, 0, 0) := by decide +kernel
theorem f_420_2907 : ftc (PT 420) 2907 = some (2907, .iload 4, 2, 0, 0, 0) := by decide +kernel
theorem f_420_2909 : ftc (PT 420) 2909 = some (2909, .iconst 5, 1, 0, 0, 0) := by decide +kernel
theorem f_420_2910 : ftc (PT 420) 2910 = some (2910, .iadd, 1, 0, 0, 0) := by decide +kernel
theorem f_420_2911 : ftc (PT 420) 2911 = some (2911, .iaload, 1, 0, 0, 0) := by decide +kernel
theorem f_420_2912 : ftc (PT 420) 2912 = some (2912, .ifCond .eq 7, 3, 2919, 0, 0) := by decide +kernel
theorem f_420_2915 : ftc (PT 420) 2915 = some (2915, .iconst 1, 1, 0, 0, 0) := by decide +kernel
theorem f_420_2916 : ftc (PT 420) 2916 = some (2916, .goto 4, 3, 2920, 0, 0) := by decide +kernel
theorem f_420_2919 : ftc (PT 420) 2919 = some (2919, .iconst 0, 1, 0, 0, 0) := by decide +kernel
theorem f_420_2920 : ftc (PT 420) 2920 = some (2920, .invokevirtual 304, 3, 292, 7340, 2086) := by decide +kernel
theorem f_420_2923 : ftc (PT 420) 2923 = some (2923, .istore 6, 2, 0, 0, 0) := by decide +kernel
theorem f_420_2925 : ftc (PT 420) 2925 = some (2925, .aload_n 2, 1, 0, 0, 0) := by decide +kernel
theorem f_420_2926 : ftc (PT 420) 2926 = some (2926, .invokevirtual 202, 3, 212, 1036, 1769) := by decide +kernel
theorem f_420_2929 : ftc (PT 420) 2929 = some (2929, .iload 5, 2, 0, 0, 0) := by decide +kernel
theorem f_420_2931 : ftc (PT 420) 2931 = some (2931, .if_icmp .eq 5, 3, 2936, 0, 0) := by decide +kernel
theorem f_420_2934 : ftc (PT 420) 2934 = some (2934, .iconst 0, 1, 0, 0, 0) := by decide +kernel
theorem f_420_2935 : ftc (PT 420) 2935 = some (2935, .ireturn, 1, 1, 0, 0) := by decide +kernel
theorem f_420_2936 : ftc (PT 420) 2936 = some (2936, .iload 5, 2, 0, 0, 0) := by decide +kernel
theorem f_420_2938 : ftc (PT 420) 2938 = some (2938, .ifCond .ne 15, 3, 2953, 0, 0) := by decide +kernel
theorem f_420_2941 : ftc (PT 420) 2941 = some (2941, .aload_n 3, 1, 0, 0, 0) := by decide +kernel
theorem f_420_2942 : ftc (PT 420) 2942 = some (2942, .iconst 0, 1, 0, 0, 0) := by decide +kernel
theorem f_420_2943 : ftc (PT 420) 2943 = some (2943, .laload, 1, 0, 0, 0) := by decide +kernel
theorem f_420_2944 : ftc (PT 420) 2944 = some (2944, .iload 6, 2, 0, 0, 0) := by decide +kernel
theorem f_420_2946 : ftc (PT 420) 2946 = some (2946, .i2l, 1, 0, 0, 0) := by decide +kernel
theorem f_420_2947 : ftc (PT 420) 2947 = some (2947, .lcmp, 1, 0, 0, 0) := by decide +kernel
theorem f_420_2948 : ftc (PT 420) 2948 = some (2948, .ifCond .eq 5, 3, 2953, 0, 0) := by decide +kernel
theorem f_420_2951 : ftc (PT 420) 2951 = some (2951, .iconst 0, 1, 0, 0, 0) := by decide +kernel
theorem f_420_2952 : ftc (PT 420) 2952 = some (2952, .ireturn, 1, 1, 0, 0) := by decide +kernel
theorem f_420_2953 : ftc (PT 420) 2953 = some (2953, .goto 1964, 3, 4917, 0, 0) := by decide +kernel
theorem f_420_2956 : ftc (PT 420) 2956 = some (2956, .aload_n 1, 1, 0, 0, 0) := by decide +kernel
theorem f_420_2957 : ftc (PT 420) 2957 = some (2957, .aload_n 0, 1, 0, 0, 0) := by decide +kernel
theorem f_420_2958 : ftc (PT 420) 2958 = some (2958, .iload 4, 2, 0, 0, 0) := by decide +kernel
theorem f_420_2960 : ftc (PT 420) 2960 = some (2960, .iconst 1, 1, 0, 0, 0) := by decide +kernel
theorem f_420_2961 : ftc (PT 420) 2961 = some (2961, .iadd, 1, 0, 0, 0) := by decide +kernel
theorem f_420_2962 : ftc (PT 420) 2962 = some (2962, .iaload, 1, 0, 0, 0) := by decide +kernel
theorem f_420_2963 : ftc (PT 420) 2963 = some (2963, .aload_n 0, 1, 0, 0, 0) := by decide +kernel
theorem f_420_2964 : ftc (PT 420) 2964 = some (2964, .iload 4, 2, 0, 0, 0) := by decide +kernel
theorem f_420_2966 : ftc (PT 420) 2966 = some (2966, .iconst 2, 1, 0, 0, 0) := by decide +kernel
theorem f_420_2967 : ftc (PT 420) 2967 = some (2967, .iadd, 1, 0, 0, 0) := by decide +kernel
theorem f_420_2968 : ftc (PT 420) 2968 = some (2968, .iaload, 1, 0, 0, 0) := by decide +kernel
theorem f_420_2969 : ftc (PT 420) 2969 = some (2969, .ifCond .eq 7, 3, 2976, 0, 0) := by decide +kernel
theorem f_420_2972 : ftc (PT 420) 2972 = some (2972, .iconst 1, 1, 0, 0, 0) := by decide +kernel
theorem f_420_2973 : ftc (PT 420) 2973 = some (2973, .goto 4, 3, 2977, 0, 0) := by decide +kernel
theorem f_420_2976 : ftc (PT 420) 2976 = some (2976, .iconst 0, 1, 0, 0, 0) := by decide +kernel
theorem f_420_2977 : ftc (PT 420) 2977 = some (2977, .aload_n 0, 1, 0, 0, 0) := by decide +kernel
theorem f_420_2978 : ftc (PT 420) 2978 = some (2978, .iload 4, 2, 0, 0, 0) := by decide +kernel
theorem f_420_2980 : ftc (PT 420) 2980 = some (2980, .iconst 3, 1, 0, 0, 0) := by decide +kernel
theorem f_420_2981 : ftc (PT 420) 2981 = some (2981, .iadd, 1, 0, 0, 0) := by decide +kernel
theorem f_420_2982 : ftc (PT 420) 2982 = some (2982, .iaload, 1, 0, 0, 0) := by decide +kernel
theorem f_420_2983 : ftc (PT 420) 2983 = some (2983, .aload_n 0, 1, 0, 0, 0) := by decide +kernel
theorem f_420_2984 : ftc (PT 420) 2984 = some (2984, .iload 4, 2, 0, 0, 0) := by decide +kernel
theorem f_420_2986 : ftc (PT 420) 2986 = some (2986, .iconst 4, 1, 0, 0, 0) := by decide +kernel
theorem f_420_2987 : ftc (PT 420) 2987 = some (2987, .iadd, 1, 0, 0, 0) := by decide +kernel
theorem f_420_2988 : ftc (PT 420) 2988 = some (2988, .iaload, 1, 0, 0, 0) := by decide +kernel
theorem f_420_2989 : ftc (PT 420) 2989 = some (2989, .aload_n 0, 1, 0, 0, 0) := by decide +kernel
theorem f_420_2990 : ftc (PT 420) 2990 = some (2990, .iload 4, 2, 0, 0, 0) := by decide +kernel
theorem f_420_2992 : ftc (PT 420) 2992 = some (2992, .iconst 5, 1, 0, 0, 0) := by decide +kernel
theorem f_420_2993 : ftc (PT 420) 2993 = some (2993, .iadd, 1, 0, 0, 0) := by decide +kernel
theorem f_420_2994 : ftc (PT 420) 2994 = some (2994, .iaload, 1, 0, 0, 0) := by decide +kernel
theorem f_420_2995 : ftc (PT 420) 2995 = some (2995, .aload_n 3, 1, 0, 0, 0) := by decide +kernel
theorem f_420_2996 : ftc (PT 420) 2996 = some (2996, .invokestatic 305, 3, 395, 8199, 1326) := by decide +kernel
theorem f_420_2999 : ftc (PT 420) 2999 = some (2999, .istore 5, 2, 0, 0, 0) := by decide +kernel
theorem f_420_3001 : ftc (PT 420) 3001 = some (3001, .aload_n 2, 1, 0, 0, 0) := by decide +kernel
theorem f_420_3002 : ftc (PT 420) 3002 = some (3002, .aload_n 0, 1, 0, 0, 0) := by decide +kernel
theorem f_420_3003 : ftc (PT 420) 3003 = some (3003, .iload 4, 2, 0, 0, 0) := by decide +kernel
theorem f_420_3005 : ftc (PT 420) 3005 = some (3005, .iconst 1, 1, 0, 0, 0) := by decide +kernel
theorem f_420_3006 : ftc (PT 420) 3006 = some (3006, .iadd, 1, 0, 0, 0) := by decide +kernel
theorem f_420_3007 : ftc (PT 420) 3007 = some (3007, .iaload, 1, 0, 0, 0) := by decide +kernel
theorem f_420_3008 : ftc (PT 420) 3008 = some (3008, .aload_n 0, 1, 0, 0, 0) := by decide +kernel
theorem f_420_3009 : ftc (PT 420) 3009 = some (3009, .iload 4, 2, 0, 0, 0) := by decide +kernel
theorem f_420_3011 : ftc (PT 420) 3011 = some (3011, .iconst 2, 1, 0, 0, 0) := by decide +kernel
theorem f_420_3012 : ftc (PT 420) 3012 = some (3012, .iadd, 1, 0, 0, 0) := by decide +kernel
theorem f_420_3013 : ftc (PT 420) 3013 = some (3013, .iaload, 1, 0, 0, 0) := by decide +kernel
theorem f_420_3014 : ftc (PT 420) 3014 = some (3014, .ifCond .eq 7, 3, 3021, 0, 0) := by decide +kernel
theorem f_420_3017 : ftc (PT 420) 3017 = some (3017, .iconst 1, 1, 0, 0, 0) := by decide +kernel
theorem f_420_3018 : ftc (PT 420) 3018 = some (3018, .goto 4, 3, 3022, 0, 0) := by decide +kernel
theorem f_420_3021 : ftc (PT 420) 3021 = some (3021, .iconst 0, 1, 0, 0, 0) := by decide +kernel
theorem f_420_3022 : ftc (PT 420) 3022 = some (3022, .aload_n 0, 1, 0, 0, 0) := by decide +kernel
theorem f_420_3023 : ftc (PT 420) 3023 = some (3023, .iload 4, 2, 0, 0, 0) := by decide +kernel
theorem f_420_3025 : ftc (PT 420) 3025 = some (3025, .iconst 3, 1, 0, 0, 0) := by decide +kernel
theorem f_420_3026 : ftc (PT 420) 3026 = some (3026, .iadd, 1, 0, 0, 0) := by decide +kernel
theorem f_420_3027 : ftc (PT 420) 3027 = some (3027, .iaload, 1, 0, 0, 0) := by decide +kernel
theorem f_420_3028 : ftc (PT 420) 3028 = some (3028, .aload_n 0, 1, 0, 0, 0) := by decide +kernel
theorem f_420_3029 : ftc (PT 420) 3029 = some (3029, .iload 4, 2, 0, 0, 0) := by decide +kernel
theorem f_420_3031 : ftc (PT 420) 3031 = some (3031, .iconst 4, 1, 0, 0, 0) := by decide +kernel
theorem f_420_3032 : ftc (PT 420) 3032 = some (3032, .iadd, 1, 0, 0, 0) := by decide +kernel
theorem f_420_3033 : ftc (PT 420) 3033 = some (3033, .iaload, 1, 0, 0, 0) := by decide +kernel
theorem f_420_3034 : ftc (PT 420) 3034 = some (3034, .aload_n 0, 1, 0, 0, 0) := by decide +kernel
theorem f_420_3035 : ftc (PT 420) 3035 = some (3035, .iload 4, 2, 0, 0, 0) := by decide +kernel
theorem f_420_3037 : ftc (PT 420) 3037 = some (3037, .iconst 5, 1, 0, 0, 0) := by decide +kernel
theorem f_420_3038 : ftc (PT 420) 3038 = some (3038, .iadd, 1, 0, 0, 0) := by decide +kernel
theorem f_420_3039 : ftc (PT 420) 3039 = some (3039, .iaload, 1, 0, 0, 0) := by decide +kernel
theorem f_420_3040 : ftc (PT 420) 3040 = some (3040, .invokevirtual 308, 3, 295, 9388, 2098) := by decide +kernel
theorem f_420_3043 : ftc (PT 420) 3043 = some (3043, .istore 6, 2, 0, 0, 0) := by decide +kernel
theorem f_420_3045 : ftc (PT 420) 3045 = some (3045, .aload_n 2, 1, 0, 0, 0) := by decide +kernel
theorem f_420_3046 : ftc (PT 420) 3046 = some (3046, .invokevirtual 202, 3, 212, 1036, 1769) := by decide +kernel
theorem f_420_3049 : ftc (PT 420) 3049 = some (3049, .iload 5, 2, 0, 0, 0) := by decide +kernel
theorem f_420_3051 : ftc (PT 420) 3051 = some (3051, .if_icmp .eq 5, 3, 3056, 0, 0) := by decide +kernel
theorem f_420_3054 : ftc (PT 420) 3054 = some (3054, .iconst 0, 1, 0, 0, 0) := by decide +kernel
theorem f_420_3055 : ftc (PT 420) 3055 = some (3055, .ireturn, 1, 1, 0, 0) := by decide +kernel
theorem f_420_3056 : ftc (PT 420) 3056 = some (3056, .iload 5, 2, 0, 0, 0) := by decide +kernel
theorem f_420_3058 : ftc (PT 420) 3058 = some (3058, .ifCond .ne 15, 3, 3073, 0, 0) := by decide +kernel
theorem f_420_3061 : ftc (PT 420) 3061 = some (3061, .aload_n 3, 1, 0, 0, 0) := by decide +kernel
theorem f_420_3062 : ftc (PT 420) 3062 = some (3062, .iconst 0, 1, 0, 0, 0) := by decide +kernel
theorem f_420_3063 : ftc (PT 420) 3063 = some (3063, .laload, 1, 0, 0, 0) := by decide +kernel
theorem f_420_3064 : ftc (PT 420) 3064 = some (3064, .iload 6, 2, 0, 0, 0) := by decide +kernel
theorem f_420_3066 : ftc (PT 420) 3066 = some (3066, .i2l, 1, 0, 0, 0) := by decide +kernel
theorem f_420_3067 : ftc (PT 420) 3067 = some (3067, .lcmp, 1, 0, 0, 0) := by decide +kernel
theorem f_420_3068 : ftc (PT 420) 3068 = some (3068, .ifCond .eq 5, 3, 3073, 0, 0) := by decide +kernel
theorem f_420_3071 : ftc (PT 420) 3071 = some (3071, .iconst 0, 1, 0, 0, 0) := by decide +kernel
theorem f_420_3072 : ftc (PT 420) 3072 = some (3072, .ireturn, 1, 1, 0, 0) := by decide +kernel
theorem f_420_3073 : ftc (PT 420) 3073 = some (3073, .goto 1844, 3, 4917, 0, 0) := by decide +kernel
theorem f_420_3076 : ftc (PT 420) 3076 = some (3076, .aload_n 1, 1, 0, 0, 0) := by decide +kernel
theorem f_420_3077 : ftc (PT 420) 3077 = some (3077, .aload_n 0, 1, 0, 0, 0) := by decide +kernel
theorem f_420_3078 : ftc (PT 420) 3078 = some (3078, .iload 4, 2, 0, 0, 0) := by decide +kernel
theorem f_420_3080 : ftc (PT 420) 3080 = some (3080, .iconst 1, 1, 0, 0, 0) := by decide +kernel
theorem f_420_3081 : ftc (PT 420) 3081 = some (3081, .iadd, 1, 0, 0, 0) := by decide +kernel
theorem f_420_3082 : ftc (PT 420) 3082 = some (3082, .iaload, 1, 0, 0, 0) := by decide +kernel
theorem f_420_3083 : ftc (PT 420) 3083 = some (3083, .aload_n 0, 1, 0, 0, 0) := by decide +kernel
theorem f_420_3084 : ftc (PT 420) 3084 = some (3084, .iload 4, 2, 0, 0, 0) := by decide +kernel
theorem f_420_3086 : ftc (PT 420) 3086 = some (3086, .iconst 2, 1, 0, 0, 0) := by decide +kernel
theorem f_420_3087 : ftc (PT 420) 3087 = some (3087, .iadd, 1, 0, 0, 0) := by decide +kernel
theorem f_420_3088 : ftc (PT 420) 3088 = some (3088, .iaload, 1, 0, 0, 0) := by decide +kernel
theorem f_420_3089 : ftc (PT 420) 3089 = some (3089, .ifCond .eq 7, 3, 3096, 0, 0) := by decide +kernel
theorem f_420_3092 : ftc (PT 420) 3092 = some (3092, .iconst 1, 1, 0, 0, 0) := by decide +kernel
theorem f_420_3093 : ftc (PT 420) 3093 = some (3093, .goto 4, 3, 3097, 0, 0) := by decide +kernel
theorem f_420_3096 : ftc (PT 420) 3096 = some (3096, .iconst 0, 1, 0, 0, 0) := by decide +kernel
theorem f_420_3097 : ftc (PT 420) 3097 = some (3097, .aload_n 3, 1, 0, 0, 0) := by decide +kernel
theorem f_420_3098 : ftc (PT 420) 3098 = some (3098, .invokestatic 309, 3, 396, 5124, 1341) := by decide +kernel
theorem f_420_3101 : ftc (PT 420) 3101 = some (3101, .istore 5, 2, 0, 0, 0) := by decide +kernel
theorem f_420_3103 : ftc (PT 420) 3103 = some (3103, .aload_n 2, 1, 0, 0, 0) := by decide +kernel
theorem f_420_3104 : ftc (PT 420) 3104 = some (3104, .aload_n 0, 1, 0, 0, 0) := by decide +kernel
theorem f_420_3105 : ftc (PT 420) 3105 = some (3105, .iload 4, 2, 0, 0, 0) := by decide +kernel
theorem f_420_3107 : ftc (PT 420) 3107 = some (3107, .iconst 1, 1, 0, 0, 0) := by decide +kernel
theorem f_420_3108 : ftc (PT 420) 3108 = some (3108, .iadd, 1, 0, 0, 0) := by decide +kernel
theorem f_420_3109 : ftc (PT 420) 3109 = some (3109, .iaload, 1, 0, 0, 0) := by decide +kernel
theorem f_420_3110 : ftc (PT 420) 3110 = some (3110, .aload_n 0, 1, 0, 0, 0) := by decide +kernel
theorem f_420_3111 : ftc (PT 420) 3111 = some (3111, .iload 4, 2, 0, 0, 0) := by decide +kernel
theorem f_420_3113 : ftc (PT 420) 3113 = some (3113, .iconst 2, 1, 0, 0, 0) := by decide +kernel
theorem f_420_3114 : ftc (PT 420) 3114 = some (3114, .iadd, 1, 0, 0, 0) := by decide +kernel
theorem f_420_3115 : ftc (PT 420) 3115 = some (3115, .iaload, 1, 0, 0, 0) := by decide +kernel
theorem f_420_3116 : ftc (PT 420) 3116 = some (3116, .ifCond .eq 7, 3, 3123, 0, 0) := by decide +kernel
theorem f_420_3119 : ftc (PT 420) 3119 = some (3119, .iconst 1, 1, 0, 0, 0) := by decide +kernel
theorem f_420_3120 : ftc (PT 420) 3120 = some (3120, .goto 4, 3, 3124, 0, 0) := by decide +kernel
theorem f_420_3123 : ftc (PT 420) 3123 = some (3123, .iconst 0, 1, 0, 0, 0) := by decide +kernel
theorem f_420_3124 : ftc (PT 420) 3124 = some (3124, .invokevirtual 311, 3, 297, 3148, 2106) := by decide +kernel
theorem f_420_3127 : ftc (PT 420) 3127 = some (3127, .istore 6, 2, 0, 0, 0) := by decide +kernel
theorem f_420_3129 : ftc (PT 420) 3129 = some (3129, .aload_n 2, 1, 0, 0, 0) := by decide +kernel
theorem f_420_3130 : ftc (PT 420) 3130 = some (3130, .invokevirtual 202, 3, 212, 1036, 1769) := by decide +kernel
theorem f_420_3133 : ftc (PT 420) 3133 = some (3133, .iload 5, 2, 0, 0, 0) := by decide +kernel
theorem f_420_3135 : ftc (PT 420) 3135 = some (3135, .if_icmp .eq 5, 3, 3140, 0, 0) := by decide +kernel
theorem f_420_3138 : ftc (PT 420) 3138 = some (3138, .iconst 0, 1, 0, 0, 0) := by decide +kernel
theorem f_420_3139 : ftc (PT 420) 3139 = some (3139, .ireturn, 1, 1, 0, 0) := by decide +kernel
theorem f_420_3140 : ftc (PT 420) 3140 = some (3140, .iload 5, 2, 0, 0, 0) := by decide +kernel
theorem f_420_3142 : ftc (PT 420) 3142 = some (3142, .ifCond .ne 15, 3, 3157, 0, 0) := by decide +kernel
theorem f_420_3145 : ftc (PT 420) 3145 = some (3145, .aload_n 3, 1, 0, 0, 0) := by decide +kernel
theorem f_420_3146 : ftc (PT 420) 3146 = some (3146, .iconst 0, 1, 0, 0, 0) := by decide +kernel
theorem f_420_3147 : ftc (PT 420) 3147 = some (3147, .laload, 1, 0, 0, 0) := by decide +kernel
theorem f_420_3148 : ftc (PT 420) 3148 = some (3148, .iload 6, 2, 0, 0, 0) := by decide +kernel
theorem f_420_3150 : ftc (PT 420) 3150 = some (3150, .i2l, 1, 0, 0, 0) := by decide +kernel
theorem f_420_3151 : ftc (PT 420) 3151 = some (3151, .lcmp, 1, 0, 0, 0) := by decide +kernel
theorem f_420_3152 : ftc (PT 420) 3152 = some (3152, .ifCond .eq 5, 3, 3157, 0, 0) := by decide +kernel
theorem f_420_3155 : ftc (PT 420) 3155 = some (3155, .iconst 0, 1, 0, 0, 0) := by decide +kernel
theorem f_420_3156 : ftc (PT 420) 3156 = some (3156, .ireturn, 1, 1, 0, 0) := by decide +kernel
theorem f_420_3157 : ftc (PT 420) 3157 = some (3157, .goto 1760, 3, 4917, 0, 0) := by decide +kernel
theorem f_420_3160 : ftc (PT 420) 3160 = some (3160, .aload_n 1, 1, 0, 0, 0) := by decide +kernel
theorem f_420_3161 : ftc (PT 420) 3161 = some (3161, .aload_n 0, 1, 0, 0, 0) := by decide +kernel
theorem f_420_3162 : ftc (PT 420) 3162 = some (3162, .iload 4, 2, 0, 0, 0) := by decide +kernel
theorem f_420_3164 : ftc (PT 420) 3164 = some (3164, .iconst 1, 1, 0, 0, 0) := by decide +kernel
theorem f_420_3165 : ftc (PT 420) 3165 = some (3165, .iadd, 1, 0, 0, 0) := by decide +kernel
theorem f_420_3166 : ftc (PT 420) 3166 = some (3166, .iaload, 1, 0, 0, 0) := by decide +kernel
theorem f_420_3167 : ftc (PT 420) 3167 = some (3167, .aload_n 0, 1, 0, 0, 0) := by decide +kernel
theorem f_420_3168 : ftc (PT 420) 3168 = some (3168, .iload 4, 2, 0, 0, 0) := by decide +kernel
theorem f_420_3170 : ftc (PT 420) 3170 = some (3170, .iconst 2, 1, 0, 0, 0) := by decide +kernel
theorem f_420_3171 : ftc (PT 420) 3171 = some (3171, .iadd, 1, 0, 0, 0) := by decide +kernel
theorem f_420_3172 : ftc (PT 420) 3172 = some (3172, .iaload, 1, 0, 0, 0) := by decide +kernel
theorem f_420_3173 : ftc (PT 420) 3173 = some (3173, .ifCond .eq 7, 3, 3180, 0, 0) := by decide +kernel
theorem f_420_3176 : ftc (PT 420) 3176 = some (3176, .iconst 1, 1, 0, 0, 0) := by decide +kernel
theorem f_420_3177 : ftc (PT 420) 3177 = some (3177, .goto 4, 3, 3181, 0, 0) := by decide +kernel
theorem f_420_3180 : ftc (PT 420) 3180 = some (3180, .iconst 0, 1, 0, 0, 0) := by decide +kernel
theorem f_420_3181 : ftc (PT 420) 3181 = some (3181, .aload_n 0, 1, 0, 0, 0) := by decide +kernel
theorem f_420_3182 : ftc (PT 420) 3182 = some (3182, .iload 4, 2, 0, 0, 0) := by decide +kernel
theorem f_420_3184 : ftc (PT 420) 3184 = some (3184, .iconst 3, 1, 0, 0, 0) := by decide +kernel
theorem f_420_3185 : ftc (PT 420) 3185 = some (3185, .iadd, 1, 0, 0, 0) := by decide +kernel
theorem f_420_3186 : ftc (PT 420) 3186 = some (3186, .iaload, 1, 0, 0, 0) := by decide +kernel
theorem f_420_3187 : ftc (PT 420) 3187 = some (3187, .aload_n 0, 1, 0, 0, 0) := by decide +kernel
theorem f_420_3188 : ftc (PT 420) 3188 = some (3188, .iload 4, 2, 0, 0, 0) := by decide +kernel
theorem f_420_3190 : ftc (PT 420) 3190 = some (3190, .iconst 4, 1, 0, 0, 0) := by decide +kernel
theorem f_420_3191 : ftc (PT 420) 3191 = some (3191, .iadd, 1, 0, 0, 0) := by decide +kernel
theorem f_420_3192 : ftc (PT 420) 3192 = some (3192, .iaload, 1, 0, 0, 0) := by decide +kernel
theorem f_420_3193 : ftc (PT 420) 3193 = some (3193, .ifCond .eq 7, 3, 3200, 0, 0) := by decide +kernel
theorem f_420_3196 : ftc (PT 420) 3196 = some (3196, .iconst 1, 1, 0, 0, 0) := by decide +kernel
theorem f_420_3197 : ftc (PT 420) 3197 = some (3197, .goto 4, 3, 3201, 0, 0) := by decide +kernel
theorem f_420_3200 : ftc (PT 420) 3200 = some (3200, .iconst 0, 1, 0, 0, 0) := by decide +kernel
theorem f_420_3201 : ftc (PT 420) 3201 = some (3201, .aload_n 0, 1, 0, 0, 0) := by decide +kernel
theorem f_420_3202 : ftc (PT 420) 3202 = some (3202, .iload 4, 2, 0, 0, 0) := by decide +kernel
theorem f_420_3204 : ftc (PT 420) 3204 = some (3204, .iconst 5, 1, 0, 0, 0) := by decide +kernel
theorem f_420_3205 : ftc (PT 420) 3205 = some (3205, .iadd, 1, 0, 0, 0) := by decide +kernel
theorem f_420_3206 : ftc (PT 420) 3206 = some (3206, .iaload, 1, 0, 0, 0) := by decide +kernel
theorem f_420_3207 : ftc (PT 420) 3207 = some (3207, .ifCond .eq 7, 3, 3214, 0, 0) := by decide +kernel
theorem f_420_3210 : ftc (PT 420) 3210 = some (3210, .iconst 1, 1, 0, 0, 0) := by decide +kernel
theorem f_420_3211 : ftc (PT 420) 3211 = some (3211, .goto 4, 3, 3215, 0, 0) := by decide +kernel
theorem f_420_3214 : ftc (PT 420) 3214 = some (3214, .iconst 0, 1, 0, 0, 0) := by decide +kernel
theorem f_420_3215 : ftc (PT 420) 3215 = some (3215, .aload_n 3, 1, 0, 0, 0) := by decide +kernel
theorem f_420_3216 : ftc (PT 420) 3216 = some (3216, .invokestatic 312, 3, 397, 8199, 1352) := by decide +kernel
theorem f_420_3219 : ftc (PT 420) 3219 = some (3219, .istore 5, 2, 0, 0, 0) := by decide +kernel
theorem f_420_3221 : ftc (PT 420) 3221 = some (3221, .aload_n 2, 1, 0, 0, 0) := by decide +kernel
theorem f_420_3222 : ftc (PT 420) 3222 = some (3222, .aload_n 0, 1, 0, 0, 0) := by decide +kernel
theorem f_420_3223 : ftc (PT 420) 3223 = some (3223, .iload 4, 2, 0, 0, 0) := by decide +kernel
theorem f_420_3225 : ftc (PT 420) 3225 = some (3225, .iconst 1, 1, 0, 0, 0) := by decide +kernel
theorem f_420_3226 : ftc (PT 420) 3226 = some (3226, .iadd, 1, 0, 0, 0) := by decide +kernel
theorem f_420_3227 : ftc (PT 420) 3227 = some (3227, .iaload, 1, 0, 0, 0) := by decide +kernel
theorem f_420_3228 : ftc (PT 420) 3228 = some (3228, .aload_n 0, 1, 0, 0, 0) := by decide +kernel
theorem f_420_3229 : ftc (PT 420) 3229 = some (3229, .iload 4, 2, 0, 0, 0) := by decide +kernel
theorem f_420_3231 : ftc (PT 420) 3231 = some (3231, .iconst 2, 1, 0, 0, 0) := by decide +kernel
theorem f_420_3232 : ftc (PT 420) 3232 = some (3232, .iadd, 1, 0, 0, 0) := by decide +kernel
theorem f_420_3233 : ftc (PT 420) 3233 = some (3233, .iaload, 1, 0, 0, 0) := by decide +kernel
theorem f_420_3234 : ftc (PT 420) 3234 = some (3234, .ifCond .eq 7, 3, 3241, 0, 0) := by decide +kernel
theorem f_420_3237 : ftc (PT 420) 3237 = some (3237, .iconst 1, 1, 0, 0, 0) := by decide +kernel
theorem f_420_3238 : ftc (PT 420) 3238 = some (3238, .goto 4, 3, 3242, 0, 0) := by decide +kernel
theorem f_420_3241 : ftc (PT 420) 3241 = some (3241, .iconst 0, 1, 0, 0, 0) := by decide +kernel
theorem f_420_3242 : ftc (PT 420) 3242 = some (3242, .aload_n 0, 1, 0, 0, 0) := by decide +kernel
theorem f_420_3243 : ftc (PT 420) 3243 = some (3243, .iload 4, 2, 0, 0, 0) := by decide +kernel
theorem f_420_3245 : ftc (PT 420) 3245 = some (3245, .iconst 3, 1, 0, 0, 0) := by decide +kernel
theorem f_420_3246 : ftc (PT 420) 3246 = some (3246, .iadd, 1, 0, 0, 0) := by decide +kernel
theorem f_420_3247 : ftc (PT 420) 3247 = some (3247, .iaload, 1, 0, 0, 0) := by decide +kernel
theorem f_420_3248 : ftc (PT 420) 3248 = some (3248, .aload_n 0, 1, 0, 0, 0) := by decide +kernel
theorem f_420_3249 : ftc (PT 420) 3249 = some (3249, .iload 4, 2, 0, 0, 0) := by decide +kernel
theorem f_420_3251 : ftc (PT 420) 3251 = some (3251, .iconst 4, 1, 0, 0, 0) := by decide +kernel
theorem f_420_3252 : ftc (PT 420) 3252 = some (3252, .iadd, 1, 0, 0, 0) := by decide +kernel
theorem f_420_3253 : ftc (PT 420) 3253 = some (3253, .iaload, 1, 0, 0, 0) := by decide +kernel
theorem f_420_3254 : ftc (PT 420) 3254 = some (3254, .ifCond .eq 7, 3, 3261, 0, 0) := by decide +kernel
theorem f_420_3257 : ftc (PT 420) 3257 = some (3257, .iconst 1, 1, 0, 0, 0) := by decide +kernel
theorem f_420_3258 : ftc (PT 420) 3258 = some (3258, .goto 4, 3, 3262, 0, 0) := by decide +kernel
theorem f_420_3261 : ftc (PT 420) 3261 = some (3261, .iconst 0, 1, 0, 0, 0) := by decide +kernel
theorem f_420_3262 : ftc (PT 420) 3262 = some (3262, .aload_n 0, 1, 0, 0, 0) := by decide +kernel
theorem f_420_3263 : ftc (PT 420) 3263 = some (3263, .iload 4, 2, 0, 0, 0) := by decide +kernel
theorem f_420_3265 : ftc (PT 420) 3265 = some (3265, .iconst 5, 1, 0, 0, 0) := by decide +kernel
theorem f_420_3266 : ftc (PT 420) 3266 = some (3266, .iadd, 1, 0, 0, 0) := by decide +kernel
theorem f_420_3267 : ftc (PT 420) 3267 = some (3267, .iaload, 1, 0, 0, 0) := by decide +kernel
theorem f_420_3268 : ftc (PT 420) 3268 = some (3268, .ifCond .eq 7, 3, 3275, 0, 0) := by decide +kernel
theorem f_420_3271 : ftc (PT 420) 3271 = some (3271, .iconst 1, 1, 0, 0, 0) := by decide +kernel
theorem f_420_3272 : ftc (PT 420) 3272 = some (3272, .goto 4, 3, 3276, 0, 0) := by decide +kernel
theorem f_420_3275 : ftc (PT 420) 3275 = some (3275, .iconst 0, 1, 0, 0, 0) := by decide +kernel
theorem f_420_3276 : ftc (PT 420) 3276 = some (3276, .invokevirtual 315, 3, 299, 8364, 2114) := by decide +kernel
theorem f_420_3279 : ftc (PT 420) 3279 = some (3279, .lstore 6, 2, 0, 0, 0) := by decide +kernel
theorem f_420_3281 : ftc (PT 420) 3281 = some (3281, .aload_n 2, 1, 0, 0, 0) := by decide +kernel
theorem f_420_3282 : ftc (PT 420) 3282 = some (3282, .invokevirtual 202, 3, 212, 1036, 1769) := by decide +kernel
theorem f_420_3285 : ftc (PT 420) 3285 = some (3285, .iload 5, 2, 0, 0, 0) := by decide +kernel
theorem f_420_3287 : ftc (PT 420) 3287 = some (3287, .if_icmp .eq 5, 3, 3292, 0, 0) := by decide +kernel
theorem f_420_3290 : ftc (PT 420) 3290 = some (3290, .iconst 0, 1, 0, 0, 0) := by decide +kernel
theorem f_420_3291 : ftc (PT 420) 3291 = some (3291, .ireturn, 1, 1, 0, 0) := by decide +kernel
theorem f_420_3292 : ftc (PT 420) 3292 = some (3292, .iload 5, 2, 0, 0, 0) := by decide +kernel
theorem f_420_3294 : ftc (PT 420) 3294 = some (3294, .ifCond .ne 14, 3, 3308, 0, 0) := by decide +kernel
theorem f_420_3297 : ftc (PT 420) 3297 = some (3297, .aload_n 3, 1, 0, 0, 0) := by decide +kernel
theorem f_420_3298 : ftc (PT 420) 3298 = some (3298, .iconst 0, 1, 0, 0, 0) := by decide +kernel
theorem f_420_3299 : ftc (PT 420) 3299 = some (3299, .laload, 1, 0, 0, 0) := by decide +kernel
theorem f_420_3300 : ftc (PT 420) 3300 = some (3300, .lload 6, 2, 0, 0, 0) := by decide +kernel
theorem f_420_3302 : ftc (PT 420) 3302 = some (3302, .lcmp, 1, 0, 0, 0) := by decide +kernel
theorem f_420_3303 : ftc (PT 420) 3303 = some (3303, .ifCond .eq 5, 3, 3308, 0, 0) := by decide +kernel
theorem f_420_3306 : ftc (PT 420) 3306 = some (3306, .iconst 0, 1, 0, 0, 0) := by decide +kernel
theorem f_420_3307 : ftc (PT 420) 3307 = some (3307, .ireturn, 1, 1, 0, 0) := by decide +kernel
theorem f_420_3308 : ftc (PT 420) 3308 = some (3308, .goto 1609, 3, 4917, 0, 0) := by decide +kernel
theorem f_420_3311 : ftc (PT 420) 3311 = some (3311, .aload_n 1, 1, 0, 0, 0) := by decide +kernel
theorem f_420_3312 : ftc (PT 420) 3312 = some (3312, .aload_n 0, 1, 0, 0, 0) := by decide +kernel
theorem f_420_3313 : ftc (PT 420) 3313 = some (3313, .iload 4, 2, 0, 0, 0) := by decide +kernel
theorem f_420_3315 : ftc (PT 420) 3315 = some (3315, .iconst 1, 1, 0, 0, 0) := by decide +kernel
theorem f_420_3316 : ftc (PT 420) 3316 = some (3316, .iadd, 1, 0, 0, 0) := by decide +kernel
theorem f_420_3317 : ftc (PT 420) 3317 = some (3317, .iaload, 1, 0, 0, 0) := by decide +kernel
theorem f_420_3318 : ftc (PT 420) 3318 = some (3318, .aload_n 0, 1, 0, 0, 0) := by decide +kernel
theorem f_420_3319 : ftc (PT 420) 3319 = some (3319, .iload 4, 2, 0, 0, 0) := by decide +kernel
theorem f_420_3321 : ftc (PT 420) 3321 = some (3321, .iconst 2, 1, 0, 0, 0) := by decide +kernel
theorem f_420_3322 : ftc (PT 420) 3322 = some (3322, .iadd, 1, 0, 0, 0) := by decide +kernel
theorem f_420_3323 : ftc (PT 420) 3323 = some (3323, .iaload, 1, 0, 0, 0) := by decide +kernel
theorem f_420_3324 : ftc (PT 420) 3324 = some (3324, .ifCond .eq 7, 3, 3331, 0, 0) := by decide +kernel
theorem f_420_3327 : ftc (PT 420) 3327 = some (3327, .iconst 1, 1, 0, 0, 0) := by decide +kernel
theorem f_420_3328 : ftc (PT 420) 3328 = some (3328, .goto 4, 3, 3332, 0, 0) := by decide +kernel
theorem f_420_3331 : ftc (PT 420) 3331 = some (3331, .iconst 0, 1, 0, 0, 0) := by decide +kernel
theorem f_420_3332 : ftc (PT 420) 3332 = some (3332, .aload_n 0, 1, 0, 0, 0) := by decide +kernel
theorem f_420_3333 : ftc (PT 420) 3333 = some (3333, .iload 4, 2, 0, 0, 0) := by decide +kernel
theorem f_420_3335 : ftc (PT 420) 3335 = some (3335, .iconst 3, 1, 0, 0, 0) := by decide +kernel
theorem f_420_3336 : ftc (PT 420) 3336 = some (3336, .iadd, 1, 0, 0, 0) := by decide +kernel
theorem f_420_3337 : ftc (PT 420) 3337 = some (3337, .iaload, 1, 0, 0, 0) := by decide +kernel
theorem f_420_3338 : ftc (PT 420) 3338 = some (3338, .ifCond .eq 7, 3, 3345, 0, 0) := by decide +kernel
theorem f_420_3341 : ftc (PT 420) 3341 = some (3341, .iconst 1, 1, 0, 0, 0) := by decide +kernel
theorem f_420_3342 : ftc (PT 420) 3342 = some (3342, .goto 4, 3, 3346, 0, 0) := by decide +kernel
theorem f_420_3345 : ftc (PT 420) 3345 = some (3345, .iconst 0, 1, 0, 0, 0) := by decide +kernel
theorem f_420_3346 : ftc (PT 420) 3346 = some (3346, .aload_n 3, 1, 0, 0, 0) := by decide +kernel
theorem f_420_3347 : ftc (PT 420) 3347 = some (3347, .invokestatic 316, 3, 398, 6149, 1359) := by decide +kernel
theorem f_420_3350 : ftc (PT 420) 3350 = some (3350, .istore 5, 2, 0, 0, 0) := by decide +kernel
theorem f_420_3352 : ftc (PT 420) 3352 = some (3352, .aload_n 2, 1, 0, 0, 0) := by decide +kernel
theorem f_420_3353 : ftc (PT 420) 3353 = some (3353, .aload_n 0, 1, 0, 0, 0) := by decide +kernel
theorem f_420_3354 : ftc (PT 420) 3354 = some (3354, .iload 4, 2, 0, 0, 0) := by decide +kernel
theorem f_420_3356 : ftc (PT 420) 3356 = some (3356, .iconst 1, 1, 0, 0, 0) := by decide +kernel
theorem f_420_3357 : ftc (PT 420) 3357 = some (3357, .iadd, 1, 0, 0, 0) := by decide +kernel
theorem f_420_3358 : ftc (PT 420) 3358 = some (3358, .iaload, 1, 0, 0, 0) := by decide +kernel
theorem f_420_3359 : ftc (PT 420) 3359 = some (3359, .aload_n 0, 1, 0, 0, 0) := by decide +kernel
theorem f_420_3360 : ftc (PT 420) 3360 = some (3360, .iload 4, 2, 0, 0, 0) := by decide +kernel
theorem f_420_3362 : ftc (PT 420) 3362 = some (3362, .iconst 2, 1, 0, 0, 0) := by decide +kernel
theorem f_420_3363 : ftc (PT 420) 3363 = some (3363, .iadd, 1, 0, 0, 0) := by decide +kernel
theorem f_420_3364 : ftc (PT 420) 3364 = some (3364, .iaload, 1, 0, 0, 0) := by decide +kernel
theorem f_420_3365 : ftc (PT 420) 3365 = some (3365, .ifCond .eq 7, 3, 3372, 0, 0) := by decide +kernel
theorem f_420_3368 : ftc (PT 420) 3368 = some (3368, .iconst 1, 1, 0, 0, 0) := by decide +kernel
theorem f_420_3369 : ftc (PT 420) 3369 = some (3369, .goto 4, 3, 3373, 0, 0) := by decide +kernel
theorem f_420_3372 : ftc (PT 420) 3372 = some (3372, .iconst 0, 1, 0, 0, 0) := by decide +kernel
theorem f_420_3373 : ftc (PT 420) 3373 = some (3373, .aload_n 0, 1, 0, 0, 0) := by decide +kernel
theorem f_420_3374 : ftc (PT 420) 3374 = some (3374, .iload 4, 2, 0, 0, 0) := by decide +kernel
theorem f_420_3376 : ftc (PT 420) 3376 = some (3376, .iconst 3, 1, 0, 0, 0) := by decide +kernel
theorem f_420_3377 : ftc (PT 420) 3377 = some (3377, .iadd, 1, 0, 0, 0) := by decide +kernel
theorem f_420_3378 : ftc (PT 420) 3378 = some (3378, .iaload, 1, 0, 0, 0) := by decide +kernel
theorem f_420_3379 : ftc (PT 420) 3379 = some (3379, .ifCond .eq 7, 3, 3386, 0, 0) := by decide +kernel
theorem f_420_3382 : ftc (PT 420) 3382 = some (3382, .iconst 1, 1, 0, 0, 0) := by decide +kernel
theorem f_420_3383 : ftc (PT 420) 3383 = some (3383, .goto 4, 3, 3387, 0, 0) := by decide +kernel
theorem f_420_3386 : ftc (PT 420) 3386 = some (3386, .iconst 0, 1, 0, 0, 0) := by decide +kernel
theorem f_420_3387 : ftc (PT 420) 3387 = some (3387, .invokevirtual 318, 3, 300, 8300, 2118) := by decide +kernel
theorem f_420_3390 : ftc (PT 420) 3390 = some (3390, .lstore 6, 2, 0, 0, 0) := by decide +kernel
theorem f_420_3392 : ftc (PT 420) 3392 = some (3392, .aload_n 2, 1, 0, 0, 0) := by decide +kernel
theorem f_420_3393 : ftc (PT 420) 3393 = some (3393, .invokevirtual 202, 3, 212, 1036, 1769) := by decide +kernel
theorem f_420_3396 : ftc (PT 420) 3396 = some (3396, .iload 5, 2, 0, 0, 0) := by decide +kernel
theorem f_420_3398 : ftc (PT 420) 3398 = some (3398, .if_icmp .eq 5, 3, 3403, 0, 0) := by decide +kernel
theorem f_420_3401 : ftc (PT 420) 3401 = some (3401, .iconst 0, 1, 0, 0, 0) := by decide +kernel
theorem f_420_3402 : ftc (PT 420) 3402 = some (3402, .ireturn, 1, 1, 0, 0) := by decide +kernel
theorem f_420_3403 : ftc (PT 420) 3403 = some (3403, .iload 5, 2, 0, 0, 0) := by decide +kernel
theorem f_420_3405 : ftc (PT 420) 3405 = some (3405, .ifCond .ne 14, 3, 3419, 0, 0) := by decide +kernel
theorem f_420_3408 : ftc (PT 420) 3408 = some (3408, .aload_n 3, 1, 0, 0, 0) := by decide +kernel
theorem f_420_3409 : ftc (PT 420) 3409 = some (3409, .iconst 0, 1, 0, 0, 0) := by decide +kernel
theorem f_420_3410 : ftc (PT 420) 3410 = some (3410, .laload, 1, 0, 0, 0) := by decide +kernel
theorem f_420_3411 : ftc (PT 420) 3411 = some (3411, .lload 6, 2, 0, 0, 0) := by decide +kernel
theorem f_420_3413 : ftc (PT 420) 3413 = some (3413, .lcmp, 1, 0, 0, 0) := by decide +kernel
theorem f_420_3414 : ftc (PT 420) 3414 = some (3414, .ifCond .eq 5, 3, 3419, 0, 0) := by decide +kernel
theorem f_420_3417 : ftc (PT 420) 3417 = some (3417, .iconst 0, 1, 0, 0, 0) := by decide +kernel
theorem f_420_3418 : ftc (PT 420) 3418 = some (3418, .ireturn, 1, 1, 0, 0) := by decide +kernel
theorem f_420_3419 : ftc (PT 420) 3419 = some (3419, .goto 1498, 3, 4917, 0, 0) := by decide +kernel
theorem f_420_3422 : ftc (PT 420) 3422 = some (3422, .aload_n 1, 1, 0, 0, 0) := by decide +kernel
theorem f_420_3423 : ftc (PT 420) 3423 = some (3423, .aload_n 0, 1, 0, 0, 0) := by decide +kernel
theorem f_420_3424 : ftc (PT 420) 3424 = some (3424, .iload 4, 2, 0, 0, 0) := by decide +kernel
theorem f_420_3426 : ftc (PT 420) 3426 = some (3426, .iconst 1, 1, 0, 0, 0) := by decide +kernel
theorem f_420_3427 : ftc (PT 420) 3427 = some (3427, .iadd, 1, 0, 0, 0) := by decide +kernel
theorem f_420_3428 : ftc (PT 420) 3428 = some (3428, .iaload, 1, 0, 0, 0) := by decide +kernel
theorem f_420_3429 : ftc (PT 420) 3429 = some (3429, .aload_n 0, 1, 0, 0, 0) := by decide +kernel
theorem f_420_3430 : ftc (PT 420) 3430 = some (3430, .iload 4, 2, 0, 0, 0) := by decide +kernel
theorem f_420_3432 : ftc (PT 420) 3432 = some (3432, .iconst 2, 1, 0, 0, 0) := by decide +kernel
theorem f_420_3433 : ftc (PT 420) 3433 = some (3433, .iadd, 1, 0, 0, 0) := by decide +kernel
theorem f_420_3434 : ftc (PT 420) 3434 = some (3434, .iaload, 1, 0, 0, 0) := by decide +kernel
theorem f_420_3435 : ftc (PT 420) 3435 = some (3435, .ifCond .eq 7, 3, 3442, 0, 0) := by decide +kernel
theorem f_420_3438 : ftc (PT 420) 3438 = some (3438, .iconst 1, 1, 0, 0, 0) := by decide +kernel
theorem f_420_3439 : ftc (PT 420) 3439 = some (3439, .goto 4, 3, 3443, 0, 0) := by decide +kernel
theorem f_420_3442 : ftc (PT 420) 3442 = some (3442, .iconst 0, 1, 0, 0, 0) := by decide +kernel
theorem f_420_3443 : ftc (PT 420) 3443 = some (3443, .aload_n 3, 1, 0, 0, 0) := by decide +kernel
theorem f_420_3444 : ftc (PT 420) 3444 = some (3444, .invokestatic 319, 3, 399, 5124, 1379) := by decide +kernel
theorem f_420_3447 : ftc (PT 420) 3447 = some (3447, .istore 5, 2, 0, 0, 0) := by decide +kernel
theorem f_420_3449 : ftc (PT 420) 3449 = some (3449, .aload_n 2, 1, 0, 0, 0) := by decide +kernel
theorem f_420_3450 : ftc (PT 420) 3450 = some (3450, .aload_n 0, 1, 0, 0, 0) := by decide +kernel
theorem f_420_3451 : ftc (PT 420) 3451 = some (3451, .iload 4, 2, 0, 0, 0) := by decide +kernel
theorem f_420_3453 : ftc (PT 420) 3453 = some (3453, .iconst 1, 1, 0, 0, 0) := by decide +kernel
theorem f_420_3454 : ftc (PT 420) 3454 = some (3454, .iadd, 1, 0, 0, 0) := by decide +kernel
theorem f_420_3455 : ftc (PT 420) 3455 = some (3455, .iaload, 1, 0, 0, 0) := by decide +kernel
theorem f_420_3456 : ftc (PT 420) 3456 = some (3456, .aload_n 0, 1, 0, 0, 0) := by decide +kernel
theorem f_420_3457 : ftc (PT 420) 3457 = some (3457, .iload 4, 2, 0, 0, 0) := by decide +kernel
theorem f_420_3459 : ftc (PT 420) 3459 = some (3459, .iconst 2, 1, 0, 0, 0) := by decide +kernel
theorem f_420_3460 : ftc (PT 420) 3460 = some (3460, .iadd, 1, 0, 0, 0) := by decide +kernel
theorem f_420_3461 : ftc (PT 420) 3461 = some (3461, .iaload, 1, 0, 0, 0) := by decide +kernel
theorem f_420_3462 : ftc (PT 420) 3462 = some (3462, .ifCond .eq 7, 3, 3469, 0, 0) := by decide +kernel
theorem f_420_3465 : ftc (PT 420) 3465 = some (3465, .iconst 1, 1, 0, 0, 0) := by decide +kernel
theorem f_420_3466 : ftc (PT 420) 3466 = some (3466, .goto 4, 3, 3470, 0, 0) := by decide +kernel
theorem f_420_3469 : ftc (PT 420) 3469 = some (3469, .iconst 0, 1, 0, 0, 0) := by decide +kernel
theorem f_420_3470 : ftc (PT 420) 3470 = some (3470, .invokevirtual 321, 3, 303, 3148, 2130) := by decide +kernel
theorem f_420_3473 : ftc (PT 420) 3473 = some (3473, .lstore 6, 2, 0, 0, 0) := by decide +kernel
theorem f_420_3475 : ftc (PT 420) 3475 = some (3475, .aload_n 2, 1, 0, 0, 0) := by decide +kernel
theorem f_420_3476 : ftc (PT 420) 3476 = some (3476, .invokevirtual 202, 3, 212, 1036, 1769) := by decide +kernel
theorem f_420_3479 : ftc (PT 420) 3479 = some (3479, .iload 5, 2, 0, 0, 0) := by decide +kernel
theorem f_420_3481 : ftc (PT 420) 3481 = some (3481, .if_icmp .eq 5, 3, 3486, 0, 0) := by decide +kernel
theorem f_420_3484 : ftc (PT 420) 3484 = some (3484, .iconst 0, 1, 0, 0, 0) := by decide +kernel
theorem f_420_3485 : ftc (PT 420) 3485 = some (3485, .ireturn, 1, 1, 0, 0) := by decide +kernel
theorem f_420_3486 : ftc (PT 420) 3486 = some (3486, .iload 5, 2, 0, 0, 0) := by decide +kernel
theorem f_420_3488 : ftc (PT 420) 3488 = some (3488, .ifCond .ne 14, 3, 3502, 0, 0) := by decide +kernel
theorem f_420_3491 : ftc (PT 420) 3491 = some (3491, .aload_n 3, 1, 0, 0, 0) := by decide +kernel
theorem f_420_3492 : ftc (PT 420) 3492 = some (3492, .iconst 0, 1, 0, 0, 0) := by decide +kernel
theorem f_420_3493 : ftc (PT 420) 3493 = some (3493, .laload, 1, 0, 0, 0) := by decide +kernel
theorem f_420_3494 : ftc (PT 420) 3494 = some (3494, .lload 6, 2, 0, 0, 0) := by decide +kernel
theorem f_420_3496 : ftc (PT 420) 3496 = some (3496, .lcmp, 1, 0, 0, 0) := by decide +kernel
theorem f_420_3497 : ftc (PT 420) 3497 = some (3497, .ifCond .eq 5, 3, 3502, 0, 0) := by decide +kernel
theorem f_420_3500 : ftc (PT 420) 3500 = some (3500, .iconst 0, 1, 0, 0, 0) := by decide +kernel
theorem f_420_3501 : ftc (PT 420) 3501 = some (3501, .ireturn, 1, 1, 0, 0) := by decide +kernel
theorem f_420_3502 : ftc (PT 420) 3502 = some (3502, .goto 1415, 3, 4917, 0, 0) := by decide +kernel
theorem f_420_3505 : ftc (PT 420) 3505 = some (3505, .aload_n 1, 1, 0, 0, 0) := by decide +kernel
theorem f_420_3506 : ftc (PT 420) 3506 = some (3506, .aload_n 0, 1, 0, 0, 0) := by decide +kernel
theorem f_420_3507 : ftc (PT 420) 3507 = some (3507, .iload 4, 2, 0, 0, 0) := by decide +kernel
theorem f_420_3509 : ftc (PT 420) 3509 = some (3509, .iconst 1, 1, 0, 0, 0) := by decide +kernel
theorem f_420_3510 : ftc (PT 420) 3510 = some (3510, .iadd, 1, 0, 0, 0) := by decide +kernel
theorem f_420_3511 : ftc (PT 420) 3511 = some (3511, .iaload, 1, 0, 0, 0) := by decide +kernel
theorem f_420_3512 : ftc (PT 420) 3512 = some (3512, .aload_n 3, 1, 0, 0, 0) := by decide +kernel
theorem f_420_3513 : ftc (PT 420) 3513 = some (3513, .invokestatic 322, 3, 400, 4099, 1390) := by decide +kernel
theorem f_420_3516 : ftc (PT 420) 3516 = some (3516, .istore 5, 2, 0, 0, 0) := by decide +kernel
theorem f_420_3518 : ftc (PT 420) 3518 = some (3518, .aload_n 2, 1, 0, 0, 0) := by decide +kernel
theorem f_420_3519 : ftc (PT 420) 3519 = some (3519, .aload_n 0, 1, 0, 0, 0) := by decide +kernel
theorem f_420_3520 : ftc (PT 420) 3520 = some (3520, .iload 4, 2, 0, 0, 0) := by decide +kernel
theorem f_420_3522 : ftc (PT 420) 3522 = some (3522, .iconst 1, 1, 0, 0, 0) := by decide +kernel
theorem f_420_3523 : ftc (PT 420) 3523 = some (3523, .iadd, 1, 0, 0, 0) := by decide +kernel
theorem f_420_3524 : ftc (PT 420) 3524 = some (3524, .iaload, 1, 0, 0, 0) := by decide +kernel
theorem f_420_3525 : ftc (PT 420) 3525 = some (3525, .invokevirtual 324, 3, 304, 2092, 2135) := by decide +kernel
theorem f_420_3528 : ftc (PT 420) 3528 = some (3528, .istore 6, 2, 0, 0, 0) := by decide +kernel
theorem f_420_3530 : ftc (PT 420) 3530 = some (3530, .aload_n 2, 1, 0, 0, 0) := by decide +kernel
theorem f_420_3531 : ftc (PT 420) 3531 = some (3531, .invokevirtual 202, 3, 212, 1036, 1769) := by decide +kernel
theorem f_420_3534 : ftc (PT 420) 3534 = some (3534, .iload 5, 2, 0, 0, 0) := by decide +kernel
theorem f_420_3536 : ftc (PT 420) 3536 = some (3536, .if_icmp .eq 5, 3, 3541, 0, 0) := by decide +kernel
theorem f_420_3539 : ftc (PT 420) 3539 = some (3539, .iconst 0, 1, 0, 0, 0) := by decide +kernel
theorem f_420_3540 : ftc (PT 420) 3540 = some (3540, .ireturn, 1, 1, 0, 0) := by decide +kernel
theorem f_420_3541 : ftc (PT 420) 3541 = some (3541, .iload 5, 2, 0, 0, 0) := by decide +kernel
theorem f_420_3543 : ftc (PT 420) 3543 = some (3543, .ifCond .ne 22, 3, 3565, 0, 0) := by decide +kernel
theorem f_420_3546 : ftc (PT 420) 3546 = some (3546, .aload_n 3, 1, 0, 0, 0) := by decide +kernel
theorem f_420_3547 : ftc (PT 420) 3547 = some (3547, .iconst 0, 1, 0, 0, 0) := by decide +kernel
theorem f_420_3548 : ftc (PT 420) 3548 = some (3548, .laload, 1, 0, 0, 0) := by decide +kernel
theorem f_420_3549 : ftc (PT 420) 3549 = some (3549, .iload 6, 2, 0, 0, 0) := by decide +kernel
theorem f_420_3551 : ftc (PT 420) 3551 = some (3551, .ifCond .eq 7, 3, 3558, 0, 0) := by decide +kernel
theorem f_420_3554 : ftc (PT 420) 3554 = some (3554, .lconst 1, 1, 0, 0, 0) := by decide +kernel
theorem f_420_3555 : ftc (PT 420) 3555 = some (3555, .goto 4, 3, 3559, 0, 0) := by decide +kernel
theorem f_420_3558 : ftc (PT 420) 3558 = some (3558, .lconst 0, 1, 0, 0, 0) := by decide +kernel
theorem f_420_3559 : ftc (PT 420) 3559 = some (3559, .lcmp, 1, 0, 0, 0) := by decide +kernel
theorem f_420_3560 : ftc (PT 420) 3560 = some (3560, .ifCond .eq 5, 3, 3565, 0, 0) := by decide +kernel
theorem f_420_3563 : ftc (PT 420) 3563 = some (3563, .iconst 0, 1, 0, 0, 0) := by decide +kernel
theorem f_420_3564 : ftc (PT 420) 3564 = some (3564, .ireturn, 1, 1, 0, 0) := by decide +kernel
theorem f_420_3565 : ftc (PT 420) 3565 = some (3565, .goto 1352, 3, 4917, 0, 0) := by decide +kernel
theorem f_420_3568 : ftc (PT 420) 3568 = some (3568, .aload_n 1, 1, 0, 0, 0) := by decide +kernel
theorem f_420_3569 : ftc (PT 420) 3569 = some (3569, .aload_n 0, 1, 0, 0, 0) := by decide +kernel
theorem f_420_3570 : ftc (PT 420) 3570 = some (3570, .iload 4, 2, 0, 0, 0) := by decide +kernel
theorem f_420_3572 : ftc (PT 420) 3572 = some (3572, .iconst 1, 1, 0, 0, 0) := by decide +kernel
theorem f_420_3573 : ftc (PT 420) 3573 = some (3573, .iadd, 1, 0, 0, 0) := by decide +kernel
theorem f_420_3574 : ftc (PT 420) 3574 = some (3574, .iaload, 1, 0, 0, 0) := by decide +kernel
theorem f_420_3575 : ftc (PT 420) 3575 = some (3575, .aload_n 0, 1, 0, 0, 0) := by decide +kernel
theorem f_420_3576 : ftc (PT 420) 3576 = some (3576, .iload 4, 2, 0, 0, 0) := by decide +kernel
theorem f_420_3578 : ftc (PT 420) 3578 = some (3578, .iconst 2, 1, 0, 0, 0) := by decide +kernel
theorem f_420_3579 : ftc (PT 420) 3579 = some (3579, .iadd, 1, 0, 0, 0) := by decide +kernel
theorem f_420_3580 : ftc (PT 420) 3580 = some (3580, .iaload, 1, 0, 0, 0) := by decide +kernel
theorem f_420_3581 : ftc (PT 420) 3581 = some (3581, .aload_n 0, 1, 0, 0, 0) := by decide +kernel
theorem f_420_3582 : ftc (PT 420) 3582 = some (3582, .iload 4, 2, 0, 0, 0) := by decide +kernel
theorem f_420_3584 : ftc (PT 420) 3584 = some (3584, .iconst 3, 1, 0, 0, 0) := by decide +kernel
theorem f_420_3585 : ftc (PT 420) 3585 = some (3585, .iadd, 1, 0, 0, 0) := by decide +kernel
theorem f_420_3586 : ftc (PT 420) 3586 = some (3586, .iaload, 1, 0, 0, 0) := by decide +kernel
theorem f_420_3587 : ftc (PT 420) 3587 = some (3587, .aload_n 3, 1, 0, 0, 0) := by decide +kernel
theorem f_420_3588 : ftc (PT 420) 3588 = some (3588, .invokestatic 325, 3, 401, 6149, 1397) := by decide +kernel
theorem f_420_3591 : ftc (PT 420) 3591 = some (3591, .istore 5, 2, 0, 0, 0) := by decide +kernel
theorem f_420_3593 : ftc (PT 420) 3593 = some (3593, .aload_n 2, 1, 0, 0, 0) := by decide +kernel
theorem f_420_3594 : ftc (PT 420) 3594 = some (3594, .aload_n 0, 1, 0, 0, 0) := by decide +kernel
theorem f_420_3595 : ftc (PT 420) 3595 = some (3595, .iload 4, 2, 0, 0, 0) := by decide +kernel
theorem f_420_3597 : ftc (PT 420) 3597 = some (3597, .iconst 1, 1, 0, 0, 0) := by decide +kernel
theorem f_420_3598 : ftc (PT 420) 3598 = some (3598, .iadd, 1, 0, 0, 0) := by decide +kernel
theorem f_420_3599 : ftc (PT 420) 3599 = some (3599, .iaload, 1, 0, 0, 0) := by decide +kernel
theorem f_420_3600 : ftc (PT 420) 3600 = some (3600, .aload_n 0, 1, 0, 0, 0) := by decide +kernel
theorem f_420_3601 : ftc (PT 420) 3601 = some (3601, .iload 4, 2, 0, 0, 0) := by decide +kernel
theorem f_420_3603 : ftc (PT 420) 3603 = some (3603, .iconst 2, 1, 0, 0, 0) := by decide +kernel
theorem f_420_3604 : ftc (PT 420) 3604 = some (3604, .iadd, 1, 0, 0, 0) := by decide +kernel
theorem f_420_3605 : ftc (PT 420) 3605 = some (3605, .iaload, 1, 0, 0, 0) := by decide +kernel
theorem f_420_3606 : ftc (PT 420) 3606 = some (3606, .aload_n 0, 1, 0, 0, 0) := by decide +kernel
theorem f_420_3607 : ftc (PT 420) 3607 = some (3607, .iload 4, 2, 0, 0, 0) := by decide +kernel
theorem f_420_3609 : ftc (PT 420) 3609 = some (3609, .iconst 3, 1, 0, 0, 0) := by decide +kernel
theorem f_420_3610 : ftc (PT 420) 3610 = some (3610, .iadd, 1, 0, 0, 0) := by decide +kernel
theorem f_420_3611 : ftc (PT 420) 3611 = some (3611, .iaload, 1, 0, 0, 0) := by decide +kernel
theorem f_420_3612 : ftc (PT 420) 3612 = some (3612, .invokevirtual 327, 3, 322, 4204, 2205) := by decide +kernel
theorem f_420_3615 : ftc (PT 420) 3615 = some (3615, .istore 6, 2, 0, 0, 0) := by decide +kernel
theorem f_420_3617 : ftc (PT 420) 3617 = some (3617, .aload_n 2, 1, 0, 0, 0) := by decide +kernel
theorem f_420_3618 : ftc (PT 420) 3618 = some (3618, .invokevirtual 202, 3, 212, 1036, 1769) := by decide +kernel
theorem f_420_3621 : ftc (PT 420) 3621 = some (3621, .iload 5, 2, 0, 0, 0) := by decide +kernel
theorem f_420_3623 : ftc (PT 420) 3623 = some (3623, .if_icmp .eq 5, 3, 3628, 0, 0) := by decide +kernel
theorem f_420_3626 : ftc (PT 420) 3626 = some (3626, .iconst 0, 1, 0, 0, 0) := by decide +kernel
theorem f_420_3627 : ftc (PT 420) 3627 = some (3627, .ireturn, 1, 1, 0, 0) := by decide +kernel
theorem f_420_3628 : ftc (PT 420) 3628 = some (3628, .iload 5, 2, 0, 0, 0) := by decide +kernel
theorem f_420_3630 : ftc (PT 420) 3630 = some (3630, .ifCond .ne 15, 3, 3645, 0, 0) := by decide +kernel
theorem f_420_3633 : ftc (PT 420) 3633 = some (3633, .aload_n 3, 1, 0, 0, 0) := by decide +kernel
theorem f_420_3634 : ftc (PT 420) 3634 = some (3634, .iconst 0, 1, 0, 0, 0) := by decide +kernel
theorem f_420_3635 : ftc (PT 420) 3635 = some (3635, .laload, 1, 0, 0, 0) := by decide +kernel
theorem f_420_3636 : ftc (PT 420) 3636 = some (3636, .iload 6, 2, 0, 0, 0) := by decide +kernel
theorem f_420_3638 : ftc (PT 420) 3638 = some (3638, .i2l, 1, 0, 0, 0) := by decide +kernel
theorem f_420_3639 : ftc (PT 420) 3639 = some (3639, .lcmp, 1, 0, 0, 0) := by decide +kernel
theorem f_420_3640 : ftc (PT 420) 3640 = some (3640, .ifCond .eq 5, 3, 3645, 0, 0) := by decide +kernel
theorem f_420_3643 : ftc (PT 420) 3643 = some (3643, .iconst 0, 1, 0, 0, 0) := by decide +kernel
theorem f_420_3644 : ftc (PT 420) 3644 = some (3644, .ireturn, 1, 1, 0, 0) := by decide +kernel
theorem f_420_3645 : ftc (PT 420) 3645 = some (3645, .goto 1272, 3, 4917, 0, 0) := by decide +kernel
theorem f_420_3648 : ftc (PT 420) 3648 = some (3648, .aload_n 1, 1, 0, 0, 0) := by decide +kernel
theorem f_420_3649 : ftc (PT 420) 3649 = some (3649, .aload_n 0, 1, 0, 0, 0) := by decide +kernel
theorem f_420_3650 : ftc (PT 420) 3650 = some (3650, .iload 4, 2, 0, 0, 0) := by decide +kernel
theorem f_420_3652 : ftc (PT 420) 3652 = some (3652, .iconst 1, 1, 0, 0, 0) := by decide +kernel
theorem f_420_3653 : ftc (PT 420) 3653 = some (3653, .iadd, 1, 0, 0, 0) := by decide +kernel
theorem f_420_3654 : ftc (PT 420) 3654 = some (3654, .iaload, 1, 0, 0, 0) := by decide +kernel
theorem f_420_3655 : ftc (PT 420) 3655 = some (3655, .aload_n 0, 1, 0, 0, 0) := by decide +kernel
theorem f_420_3656 : ftc (PT 420) 3656 = some (3656, .iload 4, 2, 0, 0, 0) := by decide +kernel
theorem f_420_3658 : ftc (PT 420) 3658 = some (3658, .iconst 2, 1, 0, 0, 0) := by decide +kernel
theorem f_420_3659 : ftc (PT 420) 3659 = some (3659, .iadd, 1, 0, 0, 0) := by decide +kernel
theorem f_420_3660 : ftc (PT 420) 3660 = some (3660, .iaload, 1, 0, 0, 0) := by decide +kernel
theorem f_420_3661 : ftc (PT 420) 3661 = some (3661, .aload_n 3, 1, 0, 0, 0) := by decide +kernel
theorem f_420_3662 : ftc (PT 420) 3662 = some (3662, .invokestatic 328, 3, 402, 5124, 1442) := by decide +kernel
theorem f_420_3665 : ftc (PT 420) 3665 = some (3665, .istore 5, 2, 0, 0, 0) := by decide +kernel
theorem f_420_3667 : ftc (PT 420) 3667 = some (3667, .aload_n 2, 1, 0, 0, 0) := by decide +kernel
theorem f_420_3668 : ftc (PT 420) 3668 = some (3668, .aload_n 0, 1, 0, 0, 0) := by decide +kernel
theorem f_420_3669 : ftc (PT 420) 3669 = some (3669, .iload 4, 2, 0, 0, 0) := by decide +kernel
theorem f_420_3671 : ftc (PT 420) 3671 = some (3671, .iconst 1, 1, 0, 0, 0) := by decide +kernel
theorem f_420_3672 : ftc (PT 420) 3672 = some (3672, .iadd, 1, 0, 0, 0) := by decide +kernel
theorem f_420_3673 : ftc (PT 420) 3673 = some (3673, .iaload, 1, 0, 0, 0) := by decide +kernel
theorem f_420_3674 : ftc (PT 420) 3674 = some (3674, .aload_n 0, 1, 0, 0, 0) := by decide +kernel
theorem f_420_3675 : ftc (PT 420) 3675 = some (3675, .iload 4, 2, 0, 0, 0) := by decide +kernel
theorem f_420_3677 : ftc (PT 420) 3677 = some (3677, .iconst 2, 1, 0, 0, 0) := by decide +kernel
theorem f_420_3678 : ftc (PT 420) 3678 = some (3678, .iadd, 1, 0, 0, 0) := by decide +kernel
theorem f_420_3679 : ftc (PT 420) 3679 = some (3679, .iaload, 1, 0, 0, 0) := by decide +kernel
theorem f_420_3680 : ftc (PT 420) 3680 = some (3680, .invokevirtual 330, 3, 323, 5196, 2209) := by decide +kernel
theorem f_420_3683 : ftc (PT 420) 3683 = some (3683, .istore 6, 2, 0, 0, 0) := by decide +kernel
theorem f_420_3685 : ftc (PT 420) 3685 = some (3685, .aload_n 2, 1, 0, 0, 0) := by decide +kernel
theorem f_420_3686 : ftc (PT 420) 3686 = some (3686, .invokevirtual 202, 3, 212, 1036, 1769) := by decide +kernel
theorem f_420_3689 : ftc (PT 420) 3689 = some (3689, .iload 5, 2, 0, 0, 0) := by decide +kernel
theorem f_420_3691 : ftc (PT 420) 3691 = some (3691, .if_icmp .eq 5, 3, 3696, 0, 0) := by decide +kernel
theorem f_420_3694 : ftc (PT 420) 3694 = some (3694, .iconst 0, 1, 0, 0, 0) := by decide +kernel
theorem f_420_3695 : ftc (PT 420) 3695 = some (3695, .ireturn, 1, 1, 0, 0) := by decide +kernel
theorem f_420_3696 : ftc (PT 420) 3696 = some (3696, .iload 5, 2, 0, 0, 0) := by decide +kernel
theorem f_420_3698 : ftc (PT 420) 3698 = some (3698, .ifCond .ne 15, 3, 3713, 0, 0) := by decide +kernel
theorem f_420_3701 : ftc (PT 420) 3701 = some (3701, .aload_n 3, 1, 0, 0, 0) := by decide +kernel
theorem f_420_3702 : ftc (PT 420) 3702 = some (3702, .iconst 0, 1, 0, 0, 0) := by decide +kernel
theorem f_420_3703 : ftc (PT 420) 3703 = some (3703, .laload, 1, 0, 0, 0) := by decide +kernel
theorem f_420_3704 : ftc (PT 420) 3704 = some (3704, .iload 6, 2, 0, 0, 0) := by decide +kernel
theorem f_420_3706 : ftc (PT 420) 3706 = some (3706, .i2l, 1, 0, 0, 0) := by decide +kernel
theorem f_420_3707 : ftc (PT 420) 3707 = some (3707, .lcmp, 1, 0, 0, 0) := by decide +kernel
theorem f_420_3708 : ftc (PT 420) 3708 = some (3708, .ifCond .eq 5, 3, 3713, 0, 0) := by decide +kernel
theorem f_420_3711 : ftc (PT 420) 3711 = some (3711, .iconst 0, 1, 0, 0, 0) := by decide +kernel
theorem f_420_3712 : ftc (PT 420) 3712 = some (3712, .ireturn, 1, 1, 0, 0) := by decide +kernel
theorem f_420_3713 : ftc (PT 420) 3713 = some (3713, .goto 1204, 3, 4917, 0, 0) := by decide +kernel
theorem f_420_3716 : ftc (PT 420) 3716 = some (3716, .aload_n 1, 1, 0, 0, 0) := by decide +kernel
theorem f_420_3717 : ftc (PT 420) 3717 = some (3717, .invokestatic 331, 3, 403, 2049, 1464) := by decide +kernel
theorem f_420_3720 : ftc (PT 420) 3720 = some (3720, .istore 5, 2, 0, 0, 0) := by decide +kernel
theorem f_420_3722 : ftc (PT 420) 3722 = some (3722, .aload_n 2, 1, 0, 0, 0) := by decide +kernel
theorem f_420_3723 : ftc (PT 420) 3723 = some (3723, .invokevirtual 334, 3, 336, 17420, 2260) := by decide +kernel
theorem f_420_3726 : ftc (PT 420) 3726 = some (3726, .pop, 1, 0, 0, 0) := by decide +kernel
theorem f_420_3727 : ftc (PT 420) 3727 = some (3727, .aload_n 2, 1, 0, 0, 0) := by decide +kernel
theorem f_420_3728 : ftc (PT 420) 3728 = some (3728, .invokevirtual 202, 3, 212, 1036, 1769) := by decide +kernel
theorem f_420_3731 : ftc (PT 420) 3731 = some (3731, .iload 5, 2, 0, 0, 0) := by decide +kernel
theorem f_420_3733 : ftc (PT 420) 3733 = some (3733, .if_icmp .eq 5, 3, 3738, 0, 0) := by decide +kernel
theorem f_420_3736 : ftc (PT 420) 3736 = some (3736, .iconst 0, 1, 0, 0, 0) := by decide +kernel
theorem f_420_3737 : ftc (PT 420) 3737 = some (3737, .ireturn, 1, 1, 0, 0) := by decide +kernel
theorem f_420_3738 : ftc (PT 420) 3738 = some (3738, .goto 1179, 3, 4917, 0, 0) := by decide +kernel
theorem f_420_3741 : ftc (PT 420) 3741 = some (3741, .aload_n 1, 1, 0, 0, 0) := by decide +kernel
theorem f_420_3742 : ftc (PT 420) 3742 = some (3742, .aload_n 0, 1, 0, 0, 0) := by decide +kernel
theorem f_420_3743 : ftc (PT 420) 3743 = some (3743, .iload 4, 2, 0, 0, 0) := by decide +kernel
theorem f_420_3745 : ftc (PT 420) 3745 = some (3745, .iconst 1, 1, 0, 0, 0) := by decide +kernel
theorem f_420_3746 : ftc (PT 420) 3746 = some (3746, .iadd, 1, 0, 0, 0) := by decide +kernel
theorem f_420_3747 : ftc (PT 420) 3747 = some (3747, .iaload, 1, 0, 0, 0) := by decide +kernel
theorem f_420_3748 : ftc (PT 420) 3748 = some (3748, .aload_n 0, 1, 0, 0, 0) := by decide +kernel
theorem f_420_3749 : ftc (PT 420) 3749 = some (3749, .iload 4, 2, 0, 0, 0) := by decide +kernel
theorem f_420_3751 : ftc (PT 420) 3751 = some (3751, .iconst 2, 1, 0, 0, 0) := by decide +kernel
theorem f_420_3752 : ftc (PT 420) 3752 = some (3752, .iadd, 1, 0, 0, 0) := by decide +kernel
theorem f_420_3753 : ftc (PT 420) 3753 = some (3753, .iaload, 1, 0, 0, 0) := by decide +kernel
theorem f_420_3754 : ftc (PT 420) 3754 = some (3754, .aload_n 3, 1, 0, 0, 0) := by decide +kernel
theorem f_420_3755 : ftc (PT 420) 3755 = some (3755, .invokestatic 336, 3, 404, 5124, 1479) := by decide +kernel
theorem f_420_3758 : ftc (PT 420) 3758 = some (3758, .istore 5, 2, 0, 0, 0) := by decide +kernel
theorem f_420_3760 : ftc (PT 420) 3760 = some (3760, .aload_n 2, 1, 0, 0, 0) := by decide +kernel
theorem f_420_3761 : ftc (PT 420) 3761 = some (3761, .aload_n 0, 1, 0, 0, 0) := by decide +kernel
theorem f_420_3762 : ftc (PT 420) 3762 = some (3762, .iload 4, 2, 0, 0, 0) := by decide +kernel
theorem f_420_3764 : ftc (PT 420) 3764 = some (3764, .iconst 1, 1, 0, 0, 0) := by decide +kernel
theorem f_420_3765 : ftc (PT 420) 3765 = some (3765, .iadd, 1, 0, 0, 0) := by decide +kernel
theorem f_420_3766 : ftc (PT 420) 3766 = some (3766, .iaload, 1, 0, 0, 0) := by decide +kernel
theorem f_420_3767 : ftc (PT 420) 3767 = some (3767, .aload_n 0, 1, 0, 0, 0) := by decide +kernel
theorem f_420_3768 : ftc (PT 420) 3768 = some (3768, .iload 4, 2, 0, 0, 0) := by decide +kernel
theorem f_420_3770 : ftc (PT 420) 3770 = some (3770, .iconst 2, 1, 0, 0, 0) := by decide +kernel
theorem f_420_3771 : ftc (PT 420) 3771 = some (3771, .iadd, 1, 0, 0, 0) := by decide +kernel
theorem f_420_3772 : ftc (PT 420) 3772 = some (3772, .iaload, 1, 0, 0, 0) := by decide +kernel
theorem f_420_3773 : ftc (PT 420) 3773 = some (3773, .invokevirtual 338, 3, 309, 3148, 2155) := by decide +kernel
theorem f_420_3776 : ftc (PT 420) 3776 = some (3776, .istore 6, 2, 0, 0, 0) := by decide +kernel
theorem f_420_3778 : ftc (PT 420) 3778 = some (3778, .aload_n 2, 1, 0, 0, 0) := by decide +kernel
theorem f_420_3779 : ftc (PT 420) 3779 = some (3779, .invokevirtual 202, 3, 212, 1036, 1769) := by decide +kernel
theorem f_420_3782 : ftc (PT 420) 3782 = some (3782, .iload 5, 2, 0, 0, 0) := by decide +kernel
theorem f_420_3784 : ftc (PT 420) 3784 = some (3784, .if_icmp .eq 5, 3, 3789, 0, 0) := by decide +kernel
theorem f_420_3787 : ftc (PT 420) 3787 = some (3787, .iconst 0, 1, 0, 0, 0) := by decide +kernel
theorem f_420_3788 : ftc (PT 420) 3788 = some (3788, .ireturn, 1, 1, 0, 0) := by decide +kernel
theorem f_420_3789 : ftc (PT 420) 3789 = some (3789, .iload 5, 2, 0, 0, 0) := by decide +kernel
theorem f_420_3791 : ftc (PT 420) 3791 = some (3791, .ifCond .ne 15, 3, 3806, 0, 0) := by decide +kernel
theorem f_420_3794 : ftc (PT 420) 3794 = some (3794, .aload_n 3, 1, 0, 0, 0) := by decide +kernel
theorem f_420_3795 : ftc (PT 420) 3795 = some (3795, .iconst 0, 1, 0, 0, 0) := by decide +kernel
theorem f_420_3796 : ftc (PT 420) 3796 = some (3796, .laload, 1, 0, 0, 0) := by decide +kernel
theorem f_420_3797 : ftc (PT 420) 3797 = some (3797, .iload 6, 2, 0, 0, 0) := by decide +kernel
theorem f_420_3799 : ftc (PT 420) 3799 = some (3799, .i2l, 1, 0, 0, 0) := by decide +kernel
theorem f_420_3800 : ftc (PT 420) 3800 = some (3800, .lcmp, 1, 0, 0, 0) := by decide +kernel
theorem f_420_3801 : ftc (PT 420) 3801 = some (3801, .ifCond .eq 5, 3, 3806, 0, 0) := by decide +kernel
theorem f_420_3804 : ftc (PT 420) 3804 = some (3804, .iconst 0, 1, 0, 0, 0) := by decide +kernel
theorem f_420_3805 : ftc (PT 420) 3805 = some (3805, .ireturn, 1, 1, 0, 0) := by decide +kernel
theorem f_420_3806 : ftc (PT 420) 3806 = some (3806, .goto 1111, 3, 4917, 0, 0) := by decide +kernel
theorem f_420_3809 : ftc (PT 420) 3809 = some (3809, .aload_n 1, 1, 0, 0, 0) := by decide +kernel
theorem f_420_3810 : ftc (PT 420) 3810 = some (3810, .aload_n 0, 1, 0, 0, 0) := by decide +kernel
theorem f_420_3811 : ftc (PT 420) 3811 = some (3811, .iload 4, 2, 0, 0, 0) := by decide +kernel
theorem f_420_3813 : ftc (PT 420) 3813 = some (3813, .iconst 1, 1, 0, 0, 0) := by decide +kernel
theorem f_420_3814 : ftc (PT 420) 3814 = some (3814, .iadd, 1, 0, 0, 0) := by decide +kernel
theorem f_420_3815 : ftc (PT 420) 3815 = some (3815, .iaload, 1, 0, 0, 0) := by decide +kernel
theorem f_420_3816 : ftc (PT 420) 3816 = some (3816, .aload_n 0, 1, 0, 0, 0) := by decide +kernel
theorem f_420_3817 : ftc (PT 420) 3817 = some (3817, .iload 4, 2, 0, 0, 0) := by decide +kernel
theorem f_420_3819 : ftc (PT 420) 3819 = some (3819, .iconst 2, 1, 0, 0, 0) := by decide +kernel
theorem f_420_3820 : ftc (PT 420) 3820 = some (3820, .iadd, 1, 0, 0, 0) := by decide +kernel
theorem f_420_3821 : ftc (PT 420) 3821 = some (3821, .iaload, 1, 0, 0, 0) := by decide +kernel
theorem f_420_3822 : ftc (PT 420) 3822 = some (3822, .ifCond .eq 7, 3, 3829, 0, 0) := by decide +kernel
theorem f_420_3825 : ftc (PT 420) 3825 = some (3825, .iconst 1, 1, 0, 0, 0) := by decide +kernel
theorem f_420_3826 : ftc (PT 420) 3826 = some (3826, .goto 4, 3, 3830, 0, 0) := by decide +kernel
theorem f_420_3829 : ftc (PT 420) 3829 = some (3829, .iconst 0, 1, 0, 0, 0) := by decide +kernel
theorem f_420_3830 : ftc (PT 420) 3830 = some (3830, .aload_n 0, 1, 0, 0, 0) := by decide +kernel
theorem f_420_3831 : ftc (PT 420) 3831 = some (3831, .iload 4, 2, 0, 0, 0) := by decide +kernel
theorem f_420_3833 : ftc (PT 420) 3833 = some (3833, .iconst 3, 1, 0, 0, 0) := by decide +kernel
theorem f_420_3834 : ftc (PT 420) 3834 = some (3834, .iadd, 1, 0, 0, 0) := by decide +kernel
theorem f_420_3835 : ftc (PT 420) 3835 = some (3835, .iaload, 1, 0, 0, 0) := by decide +kernel
theorem f_420_3836 : ftc (PT 420) 3836 = some (3836, .aload_n 0, 1, 0, 0, 0) := by decide +kernel
theorem f_420_3837 : ftc (PT 420) 3837 = some (3837, .iload 4, 2, 0, 0, 0) := by decide +kernel
theorem f_420_3839 : ftc (PT 420) 3839 = some (3839, .iconst 4, 1, 0, 0, 0) := by decide +kernel
theorem f_420_3840 : ftc (PT 420) 3840 = some (3840, .iadd, 1, 0, 0, 0) := by decide +kernel
theorem f_420_3841 : ftc (PT 420) 3841 = some (3841, .iaload, 1, 0, 0, 0) := by decide +kernel
theorem f_420_3842 : ftc (PT 420) 3842 = some (3842, .aload_n 0, 1, 0, 0, 0) := by decide +kernel
theorem f_420_3843 : ftc (PT 420) 3843 = some (3843, .iload 4, 2, 0, 0, 0) := by decide +kernel
theorem f_420_3845 : ftc (PT 420) 3845 = some (3845, .iconst 5, 1, 0, 0, 0) := by decide +kernel
theorem f_420_3846 : ftc (PT 420) 3846 = some (3846, .iadd, 1, 0, 0, 0) := by decide +kernel
theorem f_420_3847 : ftc (PT 420) 3847 = some (3847, .iaload, 1, 0, 0, 0) := by decide +kernel
theorem f_420_3848 : ftc (PT 420) 3848 = some (3848, .aload_n 0, 1, 0, 0, 0) := by decide +kernel
theorem f_420_3849 : ftc (PT 420) 3849 = some (3849, .iload 4, 2, 0, 0, 0) := by decide +kernel
theorem f_420_3851 : ftc (PT 420) 3851 = some (3851, .bipush 6, 2, 0, 0, 0) := by decide +kernel
theorem f_420_3853 : ftc (PT 420) 3853 = some (3853, .iadd, 1, 0, 0, 0) := by decide +kernel
theorem f_420_3854 : ftc (PT 420) 3854 = some (3854, .iaload, 1, 0, 0, 0) := by decide +kernel
theorem f_420_3855 : ftc (PT 420) 3855 = some (3855, .aload_n 3, 1, 0, 0, 0) := by decide +kernel
theorem f_420_3856 : ftc (PT 420) 3856 = some (3856, .invokestatic 339, 3, 405, 9224, 1494) := by decide +kernel
theorem f_420_3859 : ftc (PT 420) 3859 = some (3859, .istore 5, 2, 0, 0, 0) := by decide +kernel
theorem f_420_3861 : ftc (PT 420) 3861 = some (3861, .aload_n 2, 1, 0, 0, 0) := by decide +kernel
theorem f_420_3862 : ftc (PT 420) 3862 = some (3862, .aload_n 0, 1, 0, 0, 0) := by decide +kernel
theorem f_420_3863 : ftc (PT 420) 3863 = some (3863, .iload 4, 2, 0, 0, 0) := by decide +kernel
theorem f_420_3865 : ftc (PT 420) 3865 = some (3865, .iconst 1, 1, 0, 0, 0) := by decide +kernel
theorem f_420_3866 : ftc (PT 420) 3866 = some (3866, .iadd, 1, 0, 0, 0) := by decide +kernel
theorem f_420_3867 : ftc (PT 420) 3867 = some (3867, .iaload, 1, 0, 0, 0) := by decide +kernel
theorem f_420_3868 : ftc (PT 420) 3868 = some (3868, .aload_n 0, 1, 0, 0, 0) := by decide +kernel
theorem f_420_3869 : ftc (PT 420) 3869 = some (3869, .iload 4, 2, 0, 0, 0) := by decide +kernel
theorem f_420_3871 : ftc (PT 420) 3871 = some (3871, .iconst 2, 1, 0, 0, 0) := by decide +kernel
theorem f_420_3872 : ftc (PT 420) 3872 = some (3872, .iadd, 1, 0, 0, 0) := by decide +kernel
theorem f_420_3873 : ftc (PT 420) 3873 = some (3873, .iaload, 1, 0, 0, 0) := by decide +kernel
theorem f_420_3874 : ftc (PT 420) 3874 = some (3874, .ifCond .eq 7, 3, 3881, 0, 0) := by decide +kernel
theorem f_420_3877 : ftc (PT 420) 3877 = some (3877, .iconst 1, 1, 0, 0, 0) := by decide +kernel
theorem f_420_3878 : ftc (PT 420) 3878 = some (3878, .goto 4, 3, 3882, 0, 0) := by decide +kernel
theorem f_420_3881 : ftc (PT 420) 3881 = some (3881, .iconst 0, 1, 0, 0, 0) := by decide +kernel
theorem f_420_3882 : ftc (PT 420) 3882 = some (3882, .aload_n 0, 1, 0, 0, 0) := by decide +kernel
theorem f_420_3883 : ftc (PT 420) 3883 = some (3883, .iload 4, 2, 0, 0, 0) := by decide +kernel
theorem f_420_3885 : ftc (PT 420) 3885 = some (3885, .iconst 3, 1, 0, 0, 0) := by decide +kernel
theorem f_420_3886 : ftc (PT 420) 3886 = some (3886, .iadd, 1, 0, 0, 0) := by decide +kernel
theorem f_420_3887 : ftc (PT 420) 3887 = some (3887, .iaload, 1, 0, 0, 0) := by decide +kernel
theorem f_420_3888 : ftc (PT 420) 3888 = some (3888, .aload_n 0, 1, 0, 0, 0) := by decide +kernel
theorem f_420_3889 : ftc (PT 420) 3889 = some (3889, .iload 4, 2, 0, 0, 0) := by decide +kernel
theorem f_420_3891 : ftc (PT 420) 3891 = some (3891, .iconst 4, 1, 0, 0, 0) := by decide +kernel
theorem f_420_3892 : ftc (PT 420) 3892 = some (3892, .iadd, 1, 0, 0, 0) := by decide +kernel
theorem f_420_3893 : ftc (PT 420) 3893 = some (3893, .iaload, 1, 0, 0, 0) := by decide +kernel
theorem f_420_3894 : ftc (PT 420) 3894 = some (3894, .aload_n 0, 1, 0, 0, 0) := by decide +kernel
theorem f_420_3895 : ftc (PT 420) 3895 = some (3895, .iload 4, 2, 0, 0, 0) := by decide +kernel
theorem f_420_3897 : ftc (PT 420) 3897 = some (3897, .iconst 5, 1, 0, 0, 0) := by decide +kernel
theorem f_420_3898 : ftc (PT 420) 3898 = some (3898, .iadd, 1, 0, 0, 0) := by decide +kernel
theorem f_420_3899 : ftc (PT 420) 3899 = some (3899, .iaload, 1, 0, 0, 0) := by decide +kernel
theorem f_420_3900 : ftc (PT 420) 3900 = some (3900, .aload_n 0, 1, 0, 0, 0) := by decide +kernel
theorem f_420_3901 : ftc (PT 420) 3901 = some (3901, .iload 4, 2, 0, 0, 0) := by decide +kernel
theorem f_420_3903 : ftc (PT 420) 3903 = some (3903, .bipush 6, 2, 0, 0, 0) := by decide +kernel
theorem f_420_3905 : ftc (PT 420) 3905 = some (3905, .iadd, 1, 0, 0, 0) := by decide +kernel
theorem f_420_3906 : ftc (PT 420) 3906 = some (3906, .iaload, 1, 0, 0, 0) := by decide +kernel
theorem f_420_3907 : ftc (PT 420) 3907 = some (3907, .invokevirtual 342, 3, 288, 7372, 2070) := by decide +kernel
theorem f_420_3910 : ftc (PT 420) 3910 = some (3910, .istore 6, 2, 0, 0, 0) := by decide +kernel
theorem f_420_3912 : ftc (PT 420) 3912 = some (3912, .aload_n 2, 1, 0, 0, 0) := by decide +kernel
theorem f_420_3913 : ftc (PT 420) 3913 = some (3913, .invokevirtual 202, 3, 212, 1036, 1769) := by decide +kernel
theorem f_420_3916 : ftc (PT 420) 3916 = some (3916, .iload 5, 2, 0, 0, 0) := by decide +kernel
theorem f_420_3918 : ftc (PT 420) 3918 = some (3918, .if_icmp .eq 5, 3, 3923, 0, 0) := by decide +kernel
theorem f_420_3921 : ftc (PT 420) 3921 = some (3921, .iconst 0, 1, 0, 0, 0) := by decide +kernel
theorem f_420_3922 : ftc (PT 420) 3922 = some (3922, .ireturn, 1, 1, 0, 0) := by decide +kernel
theorem f_420_3923 : ftc (PT 420) 3923 = some (3923, .iload 5, 2, 0, 0, 0) := by decide +kernel
theorem f_420_3925 : ftc (PT 420) 3925 = some (3925, .ifCond .ne 15, 3, 3940, 0, 0) := by decide +kernel
theorem f_420_3928 : ftc (PT 420) 3928 = some (3928, .aload_n 3, 1, 0, 0, 0) := by decide +kernel
theorem f_420_3929 : ftc (PT 420) 3929 = some (3929, .iconst 0, 1, 0, 0, 0) := by decide +kernel
theorem f_420_3930 : ftc (PT 420) 3930 = some (3930, .laload, 1, 0, 0, 0) := by decide +kernel
theorem f_420_3931 : ftc (PT 420) 3931 = some (3931, .iload 6, 2, 0, 0, 0) := by decide +kernel
theorem f_420_3933 : ftc (PT 420) 3933 = some (3933, .i2l, 1, 0, 0, 0) := by decide +kernel
theorem f_420_3934 : ftc (PT 420) 3934 = some (3934, .lcmp, 1, 0, 0, 0) := by decide +kernel
theorem f_420_3935 : ftc (PT 420) 3935 = some (3935, .ifCond .eq 5, 3, 3940, 0, 0) := by decide +kernel
theorem f_420_3938 : ftc (PT 420) 3938 = some (3938, .iconst 0, 1, 0, 0, 0) := by decide +kernel
theorem f_420_3939 : ftc (PT 420) 3939 = some (3939, .ireturn, 1, 1, 0, 0) := by decide +kernel
theorem f_420_3940 : ftc (PT 420) 3940 = some (3940, .goto 977, 3, 4917, 0, 0) := by decide +kernel
theorem f_420_3943 : ftc (PT 420) 3943 = some (3943, .aload_n 1, 1, 0, 0, 0) := by decide +kernel
theorem f_420_3944 : ftc (PT 420) 3944 = some (3944, .aload_n 0, 1, 0, 0, 0) := by decide +kernel
theorem f_420_3945 : ftc (PT 420) 3945 = some (3945, .iload 4, 2, 0, 0, 0) := by decide +kernel
theorem f_420_3947 : ftc (PT 420) 3947 = some (3947, .iconst 1, 1, 0, 0, 0) := by decide +kernel
theorem f_420_3948 : ftc (PT 420) 3948 = some (3948, .iadd, 1, 0, 0, 0) := by decide +kernel
theorem f_420_3949 : ftc (PT 420) 3949 = some (3949, .iaload, 1, 0, 0, 0) := by decide +kernel
theorem f_420_3950 : ftc (PT 420) 3950 = some (3950, .aload_n 0, 1, 0, 0, 0) := by decide +kernel
theorem f_420_3951 : ftc (PT 420) 3951 = some (3951, .iload 4, 2, 0, 0, 0) := by decide +kernel
theorem f_420_3953 : ftc (PT 420) 3953 = some (3953, .iconst 2, 1, 0, 0, 0) := by decide +kernel
theorem f_420_3954 : ftc (PT 420) 3954 = some (3954, .iadd, 1, 0, 0, 0) := by decide +kernel
theorem f_420_3955 : ftc (PT 420) 3955 = some (3955, .iaload, 1, 0, 0, 0) := by decide +kernel
theorem f_420_3956 : ftc (PT 420) 3956 = some (3956, .ifCond .eq 7, 3, 3963, 0, 0) := by decide +kernel
theorem f_420_3959 : ftc (PT 420) 3959 = some (3959, .iconst 1, 1, 0, 0, 0) := by decide +kernel
theorem f_420_3960 : ftc (PT 420) 3960 = some (3960, .goto 4, 3, 3964, 0, 0) := by decide +kernel
theorem f_420_3963 : ftc (PT 420) 3963 = some (3963, .iconst 0, 1, 0, 0, 0) := by decide +kernel
theorem f_420_3964 : ftc (PT 420) 3964 = some (3964, .aload_n 0, 1, 0, 0, 0) := by decide +kernel
theorem f_420_3965 : ftc (PT 420) 3965 = some (3965, .iload 4, 2, 0, 0, 0) := by decide +kernel
theorem f_420_3967 : ftc (PT 420) 3967 = some (3967, .iconst 3, 1, 0, 0, 0) := by decide +kernel
theorem f_420_3968 : ftc (PT 420) 3968 = some (3968, .iadd, 1, 0, 0, 0) := by decide +kernel
theorem f_420_3969 : ftc (PT 420) 3969 = some (3969, .iaload, 1, 0, 0, 0) := by decide +kernel
theorem f_420_3970 : ftc (PT 420) 3970 = some (3970, .aload_n 0, 1, 0, 0, 0) := by decide +kernel
theorem f_420_3971 : ftc (PT 420) 3971 = some (3971, .iload 4, 2, 0, 0, 0) := by decide +kernel
theorem f_420_3973 : ftc (PT 420) 3973 = some (3973, .iconst 4, 1, 0, 0, 0) := by decide +kernel
theorem f_420_3974 : ftc (PT 420) 3974 = some (3974, .iadd, 1, 0, 0, 0) := by decide +kernel
theorem f_420_3975 : ftc (PT 420) 3975 = some (3975, .iaload, 1, 0, 0, 0) := by decide +kernel
theorem f_420_3976 : ftc (PT 420) 3976 = some (3976, .aload_n 0, 1, 0, 0, 0) := by decide +kernel
theorem f_420_3977 : ftc (PT 420) 3977 = some (3977, .iload 4, 2, 0, 0, 0) := by decide +kernel
theorem f_420_3979 : ftc (PT 420) 3979 = some (3979, .iconst 5, 1, 0, 0, 0) := by decide +kernel
theorem f_420_3980 : ftc (PT 420) 3980 = some (3980, .iadd, 1, 0, 0, 0) := by decide +kernel
theorem f_420_3981 : ftc (PT 420) 3981 = some (3981, .iaload, 1, 0, 0, 0) := by decide +kernel
theorem f_420_3982 : ftc (PT 420) 3982 = some (3982, .aload_n 0, 1, 0, 0, 0) := by decide +kernel
theorem f_420_3983 : ftc (PT 420) 3983 = some (3983, .iload 4, 2, 0, 0, 0) := by decide +kernel
theorem f_420_3985 : ftc (PT 420) 3985 = some (3985, .bipush 6, 2, 0, 0, 0) := by decide +kernel
theorem f_420_3987 : ftc (PT 420) 3987 = some (3987, .iadd, 1, 0, 0, 0) := by decide +kernel
theorem f_420_3988 : ftc (PT 420) 3988 = some (3988, .iaload, 1, 0, 0, 0) := by decide +kernel
theorem f_420_3989 : ftc (PT 420) 3989 = some (3989, .aload_n 0, 1, 0, 0, 0) := by decide +kernel
theorem f_420_3990 : ftc (PT 420) 3990 = some (3990, .iload 4, 2, 0, 0, 0) := by decide +kernel
theorem f_420_3992 : ftc (PT 420) 3992 = some (3992, .bipush 7, 2, 0, 0, 0) := by decide +kernel
theorem f_420_3994 : ftc (PT 420) 3994 = some (3994, .iadd, 1, 0, 0, 0) := by decide +kernel
theorem f_420_3995 : ftc (PT 420) 3995 = some (3995, .iaload, 1, 0, 0, 0) := by decide +kernel
theorem f_420_3996 : ftc (PT 420) 3996 = some (3996, .aload_n 0, 1, 0, 0, 0) := by decide +kernel
theorem f_420_3997 : ftc (PT 420) 3997 = some (3997, .iload 4, 2, 0, 0, 0) := by decide +kernel
theorem f_420_3999 : ftc (PT 420) 3999 = some (3999, .bipush 8, 2, 0, 0, 0) := by decide +kernel
theorem f_420_4001 : ftc (PT 420) 4001 = some (4001, .iadd, 1, 0, 0, 0) := by decide +kernel
theorem f_420_4002 : ftc (PT 420) 4002 = some (4002, .iaload, 1, 0, 0, 0) := by decide +kernel
theorem f_420_4003 : ftc (PT 420) 4003 = some (4003, .ifCond .eq 7, 3, 4010, 0, 0) := by decide +kernel
theorem f_420_4006 : ftc (PT 420) 4006 = some (4006, .iconst 1, 1, 0, 0, 0) := by decide +kernel
theorem f_420_4007 : ftc (PT 420) 4007 = some (4007, .goto 4, 3, 4011, 0, 0) := by decide +kernel
theorem f_420_4010 : ftc (PT 420) 4010 = some (4010, .iconst 0, 1, 0, 0, 0) := by decide +kernel
theorem f_420_4011 : ftc (PT 420) 4011 = some (4011, .aload_n 0, 1, 0, 0, 0) := by decide +kernel
theorem f_420_4012 : ftc (PT 420) 4012 = some (4012, .iload 4, 2, 0, 0, 0) := by decide +kernel
theorem f_420_4014 : ftc (PT 420) 4014 = some (4014, .bipush 9, 2, 0, 0, 0) := by decide +kernel
theorem f_420_4016 : ftc (PT 420) 4016 = some (4016, .iadd, 1, 0, 0, 0) := by decide +kernel
theorem f_420_4017 : ftc (PT 420) 4017 = some (4017, .iaload, 1, 0, 0, 0) := by decide +kernel
theorem f_420_4018 : ftc (PT 420) 4018 = some (4018, .ifCond .eq 7, 3, 4025, 0, 0) := by decide +kernel
theorem f_420_4021 : ftc (PT 420) 4021 = some (4021, .iconst 1, 1, 0, 0, 0) := by decide +kernel
theorem f_420_4022 : ftc (PT 420) 4022 = some (4022, .goto 4, 3, 4026, 0, 0) := by decide +kernel
theorem f_420_4025 : ftc (PT 420) 4025 = some (4025, .iconst 0, 1, 0, 0, 0) := by decide +kernel
theorem f_420_4026 : ftc (PT 420) 4026 = some (4026, .aload_n 3, 1, 0, 0, 0) := by decide +kernel
theorem f_420_4027 : ftc (PT 420) 4027 = some (4027, .invokestatic 343, 3, 406, 12299, 1510) := by decide +kernel
theorem f_420_4030 : ftc (PT 420) 4030 = some (4030, .istore 5, 2, 0, 0, 0) := by decide +kernel
theorem f_420_4032 : ftc (PT 420) 4032 = some (4032, .aload_n 2, 1, 0, 0, 0) := by decide +kernel
theorem f_420_4033 : ftc (PT 420) 4033 = some (4033, .aload_n 0, 1, 0, 0, 0) := by decide +kernel
theorem f_420_4034 : ftc (PT 420) 4034 = some (4034, .iload 4, 2, 0, 0, 0) := by decide +kernel
theorem f_420_4036 : ftc (PT 420) 4036 = some (4036, .iconst 1, 1, 0, 0, 0) := by decide +kernel
theorem f_420_4037 : ftc (PT 420) 4037 = some (4037, .iadd, 1, 0, 0, 0) := by decide +kernel
theorem f_420_4038 : ftc (PT 420) 4038 = some (4038, .iaload, 1, 0, 0, 0) := by decide +kernel
theorem f_420_4039 : ftc (PT 420) 4039 = some (4039, .aload_n 0, 1, 0, 0, 0) := by decide +kernel
theorem f_420_4040 : ftc (PT 420) 4040 = some (4040, .iload 4, 2, 0, 0, 0) := by decide +kernel
theorem f_420_4042 : ftc (PT 420) 4042 = some (4042, .iconst 2, 1, 0, 0, 0) := by decide +kernel
theorem f_420_4043 : ftc (PT 420) 4043 = some (4043, .iadd, 1, 0, 0, 0) := by decide +kernel
theorem f_420_4044 : ftc (PT 420) 4044 = some (4044, .iaload, 1, 0, 0, 0) := by decide +kernel
theorem f_420_4045 : ftc (PT 420) 4045 = some (4045, .ifCond .eq 7, 3, 4052, 0, 0) := by decide +kernel
theorem f_420_4048 : ftc (PT 420) 4048 = some (4048, .iconst 1, 1, 0, 0, 0) := by decide +kernel
theorem f_420_4049 : ftc (PT 420) 4049 = some (4049, .goto 4, 3, 4053, 0, 0) := by decide +kernel
theorem f_420_4052 : ftc (PT 420) 4052 = some (4052, .iconst 0, 1, 0, 0, 0) := by decide +kernel
theorem f_420_4053 : ftc (PT 420) 4053 = some (4053, .aload_n 0, 1, 0, 0, 0) := by decide +kernel
theorem f_420_4054 : ftc (PT 420) 4054 = some (4054, .iload 4, 2, 0, 0, 0) := by decide +kernel
theorem f_420_4056 : ftc (PT 420) 4056 = some (4056, .iconst 3, 1, 0, 0, 0) := by decide +kernel
theorem f_420_4057 : ftc (PT 420) 4057 = some (4057, .iadd, 1, 0, 0, 0) := by decide +kernel
theorem f_420_4058 : ftc (PT 420) 4058 = some (4058, .iaload, 1, 0, 0, 0) := by decide +kernel
theorem f_420_4059 : ftc (PT 420) 4059 = some (4059, .aload_n 0, 1, 0, 0, 0) := by decide +kernel
theorem f_420_4060 : ftc (PT 420) 4060 = some (4060, .iload 4, 2, 0, 0, 0) := by decide +kernel
theorem f_420_4062 : ftc (PT 420) 4062 = some (4062, .iconst 4, 1, 0, 0, 0) := by decide +kernel
theorem f_420_4063 : ftc (PT 420) 4063 = some (4063, .iadd, 1, 0, 0, 0) := by decide +kernel
theorem f_420_4064 : ftc (PT 420) 4064 = some (4064, .iaload, 1, 0, 0, 0) := by decide +kernel
theorem f_420_4065 : ftc (PT 420) 4065 = some (4065, .aload_n 0, 1, 0, 0, 0) := by decide +kernel
theorem f_420_4066 : ftc (PT 420) 4066 = some (4066, .iload 4, 2, 0, 0, 0) := by decide +kernel
theorem f_420_4068 : ftc (PT 420) 4068 = some (4068, .iconst 5, 1, 0, 0, 0) := by decide +kernel
theorem f_420_4069 : ftc (PT 420) 4069 = some (4069, .iadd, 1, 0, 0, 0) := by decide +kernel
theorem f_420_4070 : ftc (PT 420) 4070 = some (4070, .iaload, 1, 0, 0, 0) := by decide +kernel
theorem f_420_4071 : ftc (PT 420) 4071 = some (4071, .aload_n 0, 1, 0, 0, 0) := by decide +kernel
theorem f_420_4072 : ftc (PT 420) 4072 = some (4072, .iload 4, 2, 0, 0, 0) := by decide +kernel
theorem f_420_4074 : ftc (PT 420) 4074 = some (4074, .bipush 6, 2, 0, 0, 0) := by decide +kernel
theorem f_420_4076 : ftc (PT 420) 4076 = some (4076, .iadd, 1, 0, 0, 0) := by decide +kernel
theorem f_420_4077 : ftc (PT 420) 4077 = some (4077, .iaload, 1, 0, 0, 0) := by decide +kernel
theorem f_420_4078 : ftc (PT 420) 4078 = some (4078, .aload_n 0, 1, 0, 0, 0) := by decide +kernel
theorem f_420_4079 : ftc (PT 420) 4079 = some (4079, .iload 4, 2, 0, 0, 0) := by decide +kernel
theorem f_420_4081 : ftc (PT 420) 4081 = some (4081, .bipush 7, 2, 0, 0, 0) := by decide +kernel
theorem f_420_4083 : ftc (PT 420) 4083 = some (4083, .iadd, 1, 0, 0, 0) := by decide +kernel
theorem f_420_4084 : ftc (PT 420) 4084 = some (4084, .iaload, 1, 0, 0, 0) := by decide +kernel
theorem f_420_4085 : ftc (PT 420) 4085 = some (4085, .aload_n 0, 1, 0, 0, 0) := by decide +kernel
theorem f_420_4086 : ftc (PT 420) 4086 = some (4086, .iload 4, 2, 0, 0, 0) := by decide +kernel
theorem f_420_4088 : ftc (PT 420) 4088 = some (4088, .bipush 8, 2, 0, 0, 0) := by decide +kernel
theorem f_420_4090 : ftc (PT 420) 4090 = some (4090, .iadd, 1, 0, 0, 0) := by decide +kernel
theorem f_420_4091 : ftc (PT 420) 4091 = some (4091, .iaload, 1, 0, 0, 0) := by decide +kernel
theorem f_420_4092 : ftc (PT 420) 4092 = some (4092, .ifCond .eq 7, 3, 4099, 0, 0) := by decide +kernel
theorem f_420_4095 : ftc (PT 420) 4095 = some (4095, .iconst 1, 1, 0, 0, 0) := by decide +kernel
theorem f_420_4096 : ftc (PT 420) 4096 = some (4096, .goto 4, 3, 4100, 0, 0) := by decide +kernel
theorem f_420_4099 : ftc (PT 420) 4099 = some (4099, .iconst 0, 1, 0, 0, 0) := by decide +kernel
theorem f_420_4100 : ftc (PT 420) 4100 = some (4100, .aload_n 0, 1, 0, 0, 0) := by decide +kernel
theorem f_420_4101 : ftc (PT 420) 4101 = some (4101, .iload 4, 2, 0, 0, 0) := by decide +kernel
theorem f_420_4103 : ftc (PT 420) 4103 = some (4103, .bipush 9, 2, 0, 0, 0) := by decide +kernel
theorem f_420_4105 : ftc (PT 420) 4105 = some (4105, .iadd, 1, 0, 0, 0) := by decide +kernel
theorem f_420_4106 : ftc (PT 420) 4106 = some (4106, .iaload, 1, 0, 0, 0) := by decide +kernel
theorem f_420_4107 : ftc (PT 420) 4107 = some (4107, .ifCond .eq 7, 3, 4114, 0, 0) := by decide +kernel
theorem f_420_4110 : ftc (PT 420) 4110 = some (4110, .iconst 1, 1, 0, 0, 0) := by decide +kernel
theorem f_420_4111 : ftc (PT 420) 4111 = some (4111, .goto 4, 3, 4115, 0, 0) := by decide +kernel
theorem f_420_4114 : ftc (PT 420) 4114 = some (4114, .iconst 0, 1, 0, 0, 0) := by decide +kernel
theorem f_420_4115 : ftc (PT 420) 4115 = some (4115, .invokevirtual 346, 3, 291, 10540, 2082) := by decide +kernel
theorem f_420_4118 : ftc (PT 420) 4118 = some (4118, .lstore 6, 2, 0, 0, 0) := by decide +kernel
theorem f_420_4120 : ftc (PT 420) 4120 = some (4120, .aload_n 2, 1, 0, 0, 0) := by decide +kernel
theorem f_420_4121 : ftc (PT 420) 4121 = some (4121, .invokevirtual 202, 3, 212, 1036, 1769) := by decide +kernel
theorem f_420_4124 : ftc (PT 420) 4124 = some (4124, .iload 5, 2, 0, 0, 0) := by decide +kernel
theorem f_420_4126 : ftc (PT 420) 4126 = some (4126, .if_icmp .eq 5, 3, 4131, 0, 0) := by decide +kernel
theorem f_420_4129 : ftc (PT 420) 4129 = some (4129, .iconst 0, 1, 0, 0, 0) := by decide +kernel
theorem f_420_4130 : ftc (PT 420) 4130 = some (4130, .ireturn, 1, 1, 0, 0) := by decide +kernel
theorem f_420_4131 : ftc (PT 420) 4131 = some (4131, .iload 5, 2, 0, 0, 0) := by decide +kernel
theorem f_420_4133 : ftc (PT 420) 4133 = some (4133, .ifCond .ne 14, 3, 4147, 0, 0) := by decide +kernel
theorem f_420_4136 : ftc (PT 420) 4136 = some (4136, .aload_n 3, 1, 0, 0, 0) := by decide +kernel
theorem f_420_4137 : ftc (PT 420) 4137 = some (4137, .iconst 0, 1, 0, 0, 0) := by decide +kernel
theorem f_420_4138 : ftc (PT 420) 4138 = some (4138, .laload, 1, 0, 0, 0) := by decide +kernel
theorem f_420_4139 : ftc (PT 420) 4139 = some (4139, .lload 6, 2, 0, 0, 0) := by decide +kernel
theorem f_420_4141 : ftc (PT 420) 4141 = some (4141, .lcmp, 1, 0, 0, 0) := by decide +kernel
theorem f_420_4142 : ftc (PT 420) 4142 = some (4142, .ifCond .eq 5, 3, 4147, 0, 0) := by decide +kernel
theorem f_420_4145 : ftc (PT 420) 4145 = some (4145, .iconst 0, 1, 0, 0, 0) := by decide +kernel
theorem f_420_4146 : ftc (PT 420) 4146 = some (4146, .ireturn, 1, 1, 0, 0) := by decide +kernel
theorem f_420_4147 : ftc (PT 420) 4147 = some (4147, .goto 770, 3, 4917, 0, 0) := by decide +kernel
set_option maxRecDepth 10000 in
set_option maxHeartbeats 4000000 in
theorem s_420_2149 {Lx : Nat} {I : Mi} {L : Ml} {e : Nat} {Q : Kq} {x4 : Int32} {r : Int32} (h :
    (inb (x4 + (Int32.ofInt 1)) Lx (
     (inb (x4 + (Int32.ofInt 2)) Lx (
      (if (I 0 ((x4 + (Int32.ofInt 2)).toNatClampNeg)) = 0 then
       (inb (x4 + (Int32.ofInt 3)) Lx (
        Wp 270 0 [(0, .ref 58), (1, .int (I 0 ((x4 + (Int32.ofInt 1)).toNatClampNeg))), (2, .int (Int32.ofInt 0)), (3, .int (I 0 ((x4 + (Int32.ofInt 3)).toNatClampNeg)))] [] (gE Lx) I L e (kcp (Wp 420) 420 2178 0 [(0, .ref 0), (1, .ref 1), (2, .ref 58), (3, .ref 70), (4, .int x4), (5, .int r)] 71 [] Q))
       False)
      else
       (inb (x4 + (Int32.ofInt 3)) Lx (
        Wp 270 0 [(0, .ref 58), (1, .int (I 0 ((x4 + (Int32.ofInt 1)).toNatClampNeg))), (2, .int (Int32.ofInt 1)), (3, .int (I 0 ((x4 + (Int32.ofInt 3)).toNatClampNeg)))] [] (gE Lx) I L e (kcp (Wp 420) 420 2178 0 [(0, .ref 0), (1, .ref 1), (2, .ref 58), (3, .ref 70), (4, .int x4), (5, .int r)] 71 [] Q))
       False)))
     False))
    False)) :
    Wp 420 2149 [(0, .ref 0), (1, .ref 1), (2, .ref 58), (3, .ref 70), (4, .int x4)] [.int r] (gE Lx) I L e Q := by
  refine w_a f_420_2149 ?_
  refine w_a (ls := [(5, .int r), (0, .ref 0), (1, .ref 1), (2, .ref 58), (3, .ref 70), (4, .int x4)]) f_420_2151 ?_
  refine w_a f_420_2152 ?_
  refine w_a f_420_2153 ?_
  refine w_a f_420_2155 ?_
  refine w_a f_420_2156 ?_
  refine w_a f_420_2157 ?_
  refine n_m (fun h => ?_) h
  refine w_a f_420_2158 ?_
  refine w_a f_420_2159 ?_
  refine w_a f_420_2161 ?_
  refine w_a f_420_2162 ?_
  refine w_a f_420_2163 ?_
  refine n_m (fun h => ?_) h
  refine w_a f_420_2164 ?_
  refine i_m (fun h => ?_) (fun h => ?_) h
  · refine w_a f_420_2171 ?_
    refine w_a f_420_2172 ?_
    refine w_a f_420_2173 ?_
    refine w_a f_420_2175 ?_
    refine w_a f_420_2176 ?_
    refine w_a f_420_2177 ?_
    refine n_m (fun h => ?_) h
    exact w_c (ks := [0, 1, 2, 3, 4, 5]) f_420_2178 rfl rfl h
  · refine w_a f_420_2167 ?_
    refine w_a f_420_2168 ?_
    refine w_a f_420_2172 ?_
    refine w_a f_420_2173 ?_
    refine w_a f_420_2175 ?_
    refine w_a f_420_2176 ?_
    refine w_a f_420_2177 ?_
    refine n_m (fun h => ?_) h
    exact w_c (ks := [0, 1, 2, 3, 4, 5]) f_420_2178 rfl rfl h
set_option maxRecDepth 10000 in
set_option maxHeartbeats 4000000 in
theorem s_420_2181 {Lx : Nat} {I : Mi} {L : Ml} {e : Nat} {Q : Kq} {x4 : Int32} {x5 : Int32} {r : Int32} (h :
    (if (I 58 0) = x5 then
     (if x5 = 0 then
      (if (L 70 0) = r.toInt64 then
       Wp 420 4917 [(0, .ref 0), (1, .ref 1), (2, .ref 58), (3, .ref 70), (4, .int x4)] [] (gE Lx) I L e Q
      else
       Q (.inl (some (.int (Int32.ofInt 0)))) (gE Lx) I L e)
     else
      Wp 420 4917 [(0, .ref 0), (1, .ref 1), (2, .ref 58), (3, .ref 70), (4, .int x4)] [] (gE Lx) I L e Q)
    else
     Q (.inl (some (.int (Int32.ofInt 0)))) (gE Lx) I L e)) :
    Wp 420 2181 [(0, .ref 0), (1, .ref 1), (2, .ref 58), (3, .ref 70), (4, .int x4), (5, .int x5)] [.int r] (gE Lx) I L e Q := by
  refine w_a f_420_2181 ?_
  refine w_a (ls := [(6, .int r), (0, .ref 0), (1, .ref 1), (2, .ref 58), (3, .ref 70), (4, .int x4), (5, .int x5)]) f_420_2183 ?_
  refine w_a f_420_2184 ?_
  refine w_a (ls := [(0, .ref 58)]) f_212_0 ?_
  refine w_a f_212_1 ?_
  refine w_a f_212_4 ?_
  refine w_a (ls := [(6, .int r), (0, .ref 0), (1, .ref 1), (2, .ref 58), (3, .ref 70), (4, .int x4), (5, .int x5)]) f_420_2187 ?_
  refine w_a f_420_2189 ?_
  refine i_m (fun h => ?_) (fun h => ?_) h
  · refine w_a f_420_2194 ?_
    refine w_a f_420_2196 ?_
    refine i_m (fun h => ?_) (fun h => ?_) h
    · refine w_a f_420_2199 ?_
      refine w_a f_420_2200 ?_
      refine w_a f_420_2201 ?_
      refine w_a f_420_2202 ?_
      refine w_a f_420_2204 ?_
      refine w_a f_420_2205 ?_
      refine i_m (fun h => ?_) (fun h => ?_) h
      · refine w_a f_420_2211 ?_
        exact w_n (ks := [0, 1, 2, 3, 4]) rfl h
      · refine w_a f_420_2209 ?_
        refine w_a f_420_2210 ?_
        exact h
    · refine w_a f_420_2211 ?_
      exact w_n (ks := [0, 1, 2, 3, 4]) rfl h
  · refine w_a f_420_2192 ?_
    refine w_a f_420_2193 ?_
    exact h
set_option maxRecDepth 10000 in
set_option maxHeartbeats 4000000 in
theorem s_420_2214 {Lx : Nat} {I : Mi} {L : Ml} {e : Nat} {Q : Kq} {x4 : Int32} (h :
    (inb (x4 + (Int32.ofInt 1)) Lx (
     (if (I 0 ((x4 + (Int32.ofInt 1)).toNatClampNeg)) = 0 then
      (inb (x4 + (Int32.ofInt 2)) Lx (
       (inb (x4 + (Int32.ofInt 3)) Lx (
        (if (I 0 ((x4 + (Int32.ofInt 3)).toNatClampNeg)) = 0 then
         Wp 389 0 [(0, .ref 1), (1, .int (Int32.ofInt 0)), (2, .int (I 0 ((x4 + (Int32.ofInt 2)).toNatClampNeg))), (3, .int (Int32.ofInt 0)), (4, .ref 70)] [] (gE Lx) I L e (kcp (Wp 420) 420 2250 0 [(0, .ref 0), (1, .ref 1), (2, .ref 58), (3, .ref 70), (4, .int x4)] 71 [] Q)
        else
         Wp 389 0 [(0, .ref 1), (1, .int (Int32.ofInt 0)), (2, .int (I 0 ((x4 + (Int32.ofInt 2)).toNatClampNeg))), (3, .int (Int32.ofInt 1)), (4, .ref 70)] [] (gE Lx) I L e (kcp (Wp 420) 420 2250 0 [(0, .ref 0), (1, .ref 1), (2, .ref 58), (3, .ref 70), (4, .int x4)] 71 [] Q)))
       False))
      False)
     else
      (inb (x4 + (Int32.ofInt 2)) Lx (
       (inb (x4 + (Int32.ofInt 3)) Lx (
        (if (I 0 ((x4 + (Int32.ofInt 3)).toNatClampNeg)) = 0 then
         Wp 389 0 [(0, .ref 1), (1, .int (Int32.ofInt 1)), (2, .int (I 0 ((x4 + (Int32.ofInt 2)).toNatClampNeg))), (3, .int (Int32.ofInt 0)), (4, .ref 70)] [] (gE Lx) I L e (kcp (Wp 420) 420 2250 0 [(0, .ref 0), (1, .ref 1), (2, .ref 58), (3, .ref 70), (4, .int x4)] 71 [] Q)
        else
         Wp 389 0 [(0, .ref 1), (1, .int (Int32.ofInt 1)), (2, .int (I 0 ((x4 + (Int32.ofInt 2)).toNatClampNeg))), (3, .int (Int32.ofInt 1)), (4, .ref 70)] [] (gE Lx) I L e (kcp (Wp 420) 420 2250 0 [(0, .ref 0), (1, .ref 1), (2, .ref 58), (3, .ref 70), (4, .int x4)] 71 [] Q)))
       False))
      False)))
    False)) :
    Wp 420 2214 [(0, .ref 0), (1, .ref 1), (2, .ref 58), (3, .ref 70), (4, .int x4)] [] (gE Lx) I L e Q := by
  refine w_a f_420_2214 ?_
  refine w_a f_420_2215 ?_
  refine w_a f_420_2216 ?_
  refine w_a f_420_2218 ?_
  refine w_a f_420_2219 ?_
  refine w_a f_420_2220 ?_
  refine n_m (fun h => ?_) h
  refine w_a f_420_2221 ?_
  refine i_m (fun h => ?_) (fun h => ?_) h
  · refine w_a f_420_2228 ?_
    refine w_a f_420_2229 ?_
    refine w_a f_420_2230 ?_
    refine w_a f_420_2232 ?_
    refine w_a f_420_2233 ?_
    refine w_a f_420_2234 ?_
    refine n_m (fun h => ?_) h
    refine w_a f_420_2235 ?_
    refine w_a f_420_2236 ?_
    refine w_a f_420_2238 ?_
    refine w_a f_420_2239 ?_
    refine w_a f_420_2240 ?_
    refine n_m (fun h => ?_) h
    refine w_a f_420_2241 ?_
    refine i_m (fun h => ?_) (fun h => ?_) h
    · refine w_a f_420_2248 ?_
      refine w_a f_420_2249 ?_
      exact w_c (ks := [0, 1, 2, 3, 4]) f_420_2250 rfl rfl h
    · refine w_a f_420_2244 ?_
      refine w_a f_420_2245 ?_
      refine w_a f_420_2249 ?_
      exact w_c (ks := [0, 1, 2, 3, 4]) f_420_2250 rfl rfl h
  · refine w_a f_420_2224 ?_
    refine w_a f_420_2225 ?_
    refine w_a f_420_2229 ?_
    refine w_a f_420_2230 ?_
    refine w_a f_420_2232 ?_
    refine w_a f_420_2233 ?_
    refine w_a f_420_2234 ?_
    refine n_m (fun h => ?_) h
    refine w_a f_420_2235 ?_
    refine w_a f_420_2236 ?_
    refine w_a f_420_2238 ?_
    refine w_a f_420_2239 ?_
    refine w_a f_420_2240 ?_
    refine n_m (fun h => ?_) h
    refine w_a f_420_2241 ?_
    refine i_m (fun h => ?_) (fun h => ?_) h
    · refine w_a f_420_2248 ?_
      refine w_a f_420_2249 ?_
      exact w_c (ks := [0, 1, 2, 3, 4]) f_420_2250 rfl rfl h
    · refine w_a f_420_2244 ?_
      refine w_a f_420_2245 ?_
      refine w_a f_420_2249 ?_
      exact w_c (ks := [0, 1, 2, 3, 4]) f_420_2250 rfl rfl h
set_option maxRecDepth 10000 in
set_option maxHeartbeats 4000000 in
theorem s_420_2253 {Lx : Nat} {I : Mi} {L : Ml} {e : Nat} {Q : Kq} {x4 : Int32} {r : Int32} (h :
    (inb (x4 + (Int32.ofInt 1)) Lx (
     (if (I 0 ((x4 + (Int32.ofInt 1)).toNatClampNeg)) = 0 then
      (inb (x4 + (Int32.ofInt 2)) Lx (
       (inb (x4 + (Int32.ofInt 3)) Lx (
        (if (I 0 ((x4 + (Int32.ofInt 3)).toNatClampNeg)) = 0 then
         Wp 271 0 [(0, .ref 58), (1, .int (Int32.ofInt 0)), (2, .int (I 0 ((x4 + (Int32.ofInt 2)).toNatClampNeg))), (3, .int (Int32.ofInt 0))] [] (gE Lx) I L e (kcp (Wp 420) 420 2290 0 [(0, .ref 0), (1, .ref 1), (2, .ref 58), (3, .ref 70), (4, .int x4), (5, .int r)] 71 [] Q)
        else
         Wp 271 0 [(0, .ref 58), (1, .int (Int32.ofInt 0)), (2, .int (I 0 ((x4 + (Int32.ofInt 2)).toNatClampNeg))), (3, .int (Int32.ofInt 1))] [] (gE Lx) I L e (kcp (Wp 420) 420 2290 0 [(0, .ref 0), (1, .ref 1), (2, .ref 58), (3, .ref 70), (4, .int x4), (5, .int r)] 71 [] Q)))
       False))
      False)
     else
      (inb (x4 + (Int32.ofInt 2)) Lx (
       (inb (x4 + (Int32.ofInt 3)) Lx (
        (if (I 0 ((x4 + (Int32.ofInt 3)).toNatClampNeg)) = 0 then
         Wp 271 0 [(0, .ref 58), (1, .int (Int32.ofInt 1)), (2, .int (I 0 ((x4 + (Int32.ofInt 2)).toNatClampNeg))), (3, .int (Int32.ofInt 0))] [] (gE Lx) I L e (kcp (Wp 420) 420 2290 0 [(0, .ref 0), (1, .ref 1), (2, .ref 58), (3, .ref 70), (4, .int x4), (5, .int r)] 71 [] Q)
        else
         Wp 271 0 [(0, .ref 58), (1, .int (Int32.ofInt 1)), (2, .int (I 0 ((x4 + (Int32.ofInt 2)).toNatClampNeg))), (3, .int (Int32.ofInt 1))] [] (gE Lx) I L e (kcp (Wp 420) 420 2290 0 [(0, .ref 0), (1, .ref 1), (2, .ref 58), (3, .ref 70), (4, .int x4), (5, .int r)] 71 [] Q)))
       False))
      False)))
    False)) :
    Wp 420 2253 [(0, .ref 0), (1, .ref 1), (2, .ref 58), (3, .ref 70), (4, .int x4)] [.int r] (gE Lx) I L e Q := by
  refine w_a f_420_2253 ?_
  refine w_a (ls := [(5, .int r), (0, .ref 0), (1, .ref 1), (2, .ref 58), (3, .ref 70), (4, .int x4)]) f_420_2255 ?_
  refine w_a f_420_2256 ?_
  refine w_a f_420_2257 ?_
  refine w_a f_420_2259 ?_
  refine w_a f_420_2260 ?_
  refine w_a f_420_2261 ?_
  refine n_m (fun h => ?_) h
  refine w_a f_420_2262 ?_
  refine i_m (fun h => ?_) (fun h => ?_) h
  · refine w_a f_420_2269 ?_
    refine w_a f_420_2270 ?_
    refine w_a f_420_2271 ?_
    refine w_a f_420_2273 ?_
    refine w_a f_420_2274 ?_
    refine w_a f_420_2275 ?_
    refine n_m (fun h => ?_) h
    refine w_a f_420_2276 ?_
    refine w_a f_420_2277 ?_
    refine w_a f_420_2279 ?_
    refine w_a f_420_2280 ?_
    refine w_a f_420_2281 ?_
    refine n_m (fun h => ?_) h
    refine w_a f_420_2282 ?_
    refine i_m (fun h => ?_) (fun h => ?_) h
    · refine w_a f_420_2289 ?_
      exact w_c (ks := [0, 1, 2, 3, 4, 5]) f_420_2290 rfl rfl h
    · refine w_a f_420_2285 ?_
      refine w_a f_420_2286 ?_
      exact w_c (ks := [0, 1, 2, 3, 4, 5]) f_420_2290 rfl rfl h
  · refine w_a f_420_2265 ?_
    refine w_a f_420_2266 ?_
    refine w_a f_420_2270 ?_
    refine w_a f_420_2271 ?_
    refine w_a f_420_2273 ?_
    refine w_a f_420_2274 ?_
    refine w_a f_420_2275 ?_
    refine n_m (fun h => ?_) h
    refine w_a f_420_2276 ?_
    refine w_a f_420_2277 ?_
    refine w_a f_420_2279 ?_
    refine w_a f_420_2280 ?_
    refine w_a f_420_2281 ?_
    refine n_m (fun h => ?_) h
    refine w_a f_420_2282 ?_
    refine i_m (fun h => ?_) (fun h => ?_) h
    · refine w_a f_420_2289 ?_
      exact w_c (ks := [0, 1, 2, 3, 4, 5]) f_420_2290 rfl rfl h
    · refine w_a f_420_2285 ?_
      refine w_a f_420_2286 ?_
      exact w_c (ks := [0, 1, 2, 3, 4, 5]) f_420_2290 rfl rfl h
set_option maxRecDepth 10000 in
set_option maxHeartbeats 4000000 in
theorem s_420_2293 {Lx : Nat} {I : Mi} {L : Ml} {e : Nat} {Q : Kq} {x4 : Int32} {x5 : Int32} {r : Int32} (h :
    (if (I 58 0) = x5 then
     (if x5 = 0 then
      (if (L 70 0) = r.toInt64 then
       Wp 420 4917 [(0, .ref 0), (1, .ref 1), (2, .ref 58), (3, .ref 70), (4, .int x4)] [] (gE Lx) I L e Q
      else
       Q (.inl (some (.int (Int32.ofInt 0)))) (gE Lx) I L e)
     else
      Wp 420 4917 [(0, .ref 0), (1, .ref 1), (2, .ref 58), (3, .ref 70), (4, .int x4)] [] (gE Lx) I L e Q)
    else
     Q (.inl (some (.int (Int32.ofInt 0)))) (gE Lx) I L e)) :
    Wp 420 2293 [(0, .ref 0), (1, .ref 1), (2, .ref 58), (3, .ref 70), (4, .int x4), (5, .int x5)] [.int r] (gE Lx) I L e Q := by
  refine w_a f_420_2293 ?_
  refine w_a (ls := [(6, .int r), (0, .ref 0), (1, .ref 1), (2, .ref 58), (3, .ref 70), (4, .int x4), (5, .int x5)]) f_420_2295 ?_
  refine w_a f_420_2296 ?_
  refine w_a (ls := [(0, .ref 58)]) f_212_0 ?_
  refine w_a f_212_1 ?_
  refine w_a f_212_4 ?_
  refine w_a (ls := [(6, .int r), (0, .ref 0), (1, .ref 1), (2, .ref 58), (3, .ref 70), (4, .int x4), (5, .int x5)]) f_420_2299 ?_
  refine w_a f_420_2301 ?_
  refine i_m (fun h => ?_) (fun h => ?_) h
  · refine w_a f_420_2306 ?_
    refine w_a f_420_2308 ?_
    refine i_m (fun h => ?_) (fun h => ?_) h
    · refine w_a f_420_2311 ?_
      refine w_a f_420_2312 ?_
      refine w_a f_420_2313 ?_
      refine w_a f_420_2314 ?_
      refine w_a f_420_2316 ?_
      refine w_a f_420_2317 ?_
      refine i_m (fun h => ?_) (fun h => ?_) h
      · refine w_a f_420_2323 ?_
        exact w_n (ks := [0, 1, 2, 3, 4]) rfl h
      · refine w_a f_420_2321 ?_
        refine w_a f_420_2322 ?_
        exact h
    · refine w_a f_420_2323 ?_
      exact w_n (ks := [0, 1, 2, 3, 4]) rfl h
  · refine w_a f_420_2304 ?_
    refine w_a f_420_2305 ?_
    exact h
set_option maxRecDepth 10000 in
set_option maxHeartbeats 4000000 in
theorem s_420_2326 {Lx : Nat} {I : Mi} {L : Ml} {e : Nat} {Q : Kq} {x4 : Int32} (h :
    (inb (x4 + (Int32.ofInt 1)) Lx (
     (inb (x4 + (Int32.ofInt 2)) Lx (
      (if (I 0 ((x4 + (Int32.ofInt 2)).toNatClampNeg)) = 0 then
       (inb (x4 + (Int32.ofInt 3)) Lx (
        (if (I 0 ((x4 + (Int32.ofInt 3)).toNatClampNeg)) = 0 then
         Wp 390 0 [(0, .ref 1), (1, .int (I 0 ((x4 + (Int32.ofInt 1)).toNatClampNeg))), (2, .int (Int32.ofInt 0)), (3, .int (Int32.ofInt 0)), (4, .ref 70)] [] (gE Lx) I L e (kcp (Wp 420) 420 2362 0 [(0, .ref 0), (1, .ref 1), (2, .ref 58), (3, .ref 70), (4, .int x4)] 71 [] Q)
        else
         Wp 390 0 [(0, .ref 1), (1, .int (I 0 ((x4 + (Int32.ofInt 1)).toNatClampNeg))), (2, .int (Int32.ofInt 0)), (3, .int (Int32.ofInt 1)), (4, .ref 70)] [] (gE Lx) I L e (kcp (Wp 420) 420 2362 0 [(0, .ref 0), (1, .ref 1), (2, .ref 58), (3, .ref 70), (4, .int x4)] 71 [] Q)))
       False)
      else
       (inb (x4 + (Int32.ofInt 3)) Lx (
        (if (I 0 ((x4 + (Int32.ofInt 3)).toNatClampNeg)) = 0 then
         Wp 390 0 [(0, .ref 1), (1, .int (I 0 ((x4 + (Int32.ofInt 1)).toNatClampNeg))), (2, .int (Int32.ofInt 1)), (3, .int (Int32.ofInt 0)), (4, .ref 70)] [] (gE Lx) I L e (kcp (Wp 420) 420 2362 0 [(0, .ref 0), (1, .ref 1), (2, .ref 58), (3, .ref 70), (4, .int x4)] 71 [] Q)
        else
         Wp 390 0 [(0, .ref 1), (1, .int (I 0 ((x4 + (Int32.ofInt 1)).toNatClampNeg))), (2, .int (Int32.ofInt 1)), (3, .int (Int32.ofInt 1)), (4, .ref 70)] [] (gE Lx) I L e (kcp (Wp 420) 420 2362 0 [(0, .ref 0), (1, .ref 1), (2, .ref 58), (3, .ref 70), (4, .int x4)] 71 [] Q)))
       False)))
     False))
    False)) :
    Wp 420 2326 [(0, .ref 0), (1, .ref 1), (2, .ref 58), (3, .ref 70), (4, .int x4)] [] (gE Lx) I L e Q := by
  refine w_a f_420_2326 ?_
  refine w_a f_420_2327 ?_
  refine w_a f_420_2328 ?_
  refine w_a f_420_2330 ?_
  refine w_a f_420_2331 ?_
  refine w_a f_420_2332 ?_
  refine n_m (fun h => ?_) h
  refine w_a f_420_2333 ?_
  refine w_a f_420_2334 ?_
  refine w_a f_420_2336 ?_
  refine w_a f_420_2337 ?_
  refine w_a f_420_2338 ?_
  refine n_m (fun h => ?_) h
  refine w_a f_420_2339 ?_
  refine i_m (fun h => ?_) (fun h => ?_) h
  · refine w_a f_420_2346 ?_
    refine w_a f_420_2347 ?_
    refine w_a f_420_2348 ?_
    refine w_a f_420_2350 ?_
    refine w_a f_420_2351 ?_
    refine w_a f_420_2352 ?_
    refine n_m (fun h => ?_) h
    refine w_a f_420_2353 ?_
    refine i_m (fun h => ?_) (fun h => ?_) h
    · refine w_a f_420_2360 ?_
      refine w_a f_420_2361 ?_
      exact w_c (ks := [0, 1, 2, 3, 4]) f_420_2362 rfl rfl h
    · refine w_a f_420_2356 ?_
      refine w_a f_420_2357 ?_
      refine w_a f_420_2361 ?_
      exact w_c (ks := [0, 1, 2, 3, 4]) f_420_2362 rfl rfl h
  · refine w_a f_420_2342 ?_
    refine w_a f_420_2343 ?_
    refine w_a f_420_2347 ?_
    refine w_a f_420_2348 ?_
    refine w_a f_420_2350 ?_
    refine w_a f_420_2351 ?_
    refine w_a f_420_2352 ?_
    refine n_m (fun h => ?_) h
    refine w_a f_420_2353 ?_
    refine i_m (fun h => ?_) (fun h => ?_) h
    · refine w_a f_420_2360 ?_
      refine w_a f_420_2361 ?_
      exact w_c (ks := [0, 1, 2, 3, 4]) f_420_2362 rfl rfl h
    · refine w_a f_420_2356 ?_
      refine w_a f_420_2357 ?_
      refine w_a f_420_2361 ?_
      exact w_c (ks := [0, 1, 2, 3, 4]) f_420_2362 rfl rfl h
set_option maxRecDepth 10000 in
set_option maxHeartbeats 4000000 in
theorem s_420_2365 {Lx : Nat} {I : Mi} {L : Ml} {e : Nat} {Q : Kq} {x4 : Int32} {r : Int32} (h :
    (inb (x4 + (Int32.ofInt 1)) Lx (
     (inb (x4 + (Int32.ofInt 2)) Lx (
      (if (I 0 ((x4 + (Int32.ofInt 2)).toNatClampNeg)) = 0 then
       (inb (x4 + (Int32.ofInt 3)) Lx (
        (if (I 0 ((x4 + (Int32.ofInt 3)).toNatClampNeg)) = 0 then
         Wp 273 0 [(0, .ref 58), (1, .int (I 0 ((x4 + (Int32.ofInt 1)).toNatClampNeg))), (2, .int (Int32.ofInt 0)), (3, .int (Int32.ofInt 0))] [] (gE Lx) I L e (kcp (Wp 420) 420 2402 0 [(0, .ref 0), (1, .ref 1), (2, .ref 58), (3, .ref 70), (4, .int x4), (5, .int r)] 71 [] Q)
        else
         Wp 273 0 [(0, .ref 58), (1, .int (I 0 ((x4 + (Int32.ofInt 1)).toNatClampNeg))), (2, .int (Int32.ofInt 0)), (3, .int (Int32.ofInt 1))] [] (gE Lx) I L e (kcp (Wp 420) 420 2402 0 [(0, .ref 0), (1, .ref 1), (2, .ref 58), (3, .ref 70), (4, .int x4), (5, .int r)] 71 [] Q)))
       False)
      else
       (inb (x4 + (Int32.ofInt 3)) Lx (
        (if (I 0 ((x4 + (Int32.ofInt 3)).toNatClampNeg)) = 0 then
         Wp 273 0 [(0, .ref 58), (1, .int (I 0 ((x4 + (Int32.ofInt 1)).toNatClampNeg))), (2, .int (Int32.ofInt 1)), (3, .int (Int32.ofInt 0))] [] (gE Lx) I L e (kcp (Wp 420) 420 2402 0 [(0, .ref 0), (1, .ref 1), (2, .ref 58), (3, .ref 70), (4, .int x4), (5, .int r)] 71 [] Q)
        else
         Wp 273 0 [(0, .ref 58), (1, .int (I 0 ((x4 + (Int32.ofInt 1)).toNatClampNeg))), (2, .int (Int32.ofInt 1)), (3, .int (Int32.ofInt 1))] [] (gE Lx) I L e (kcp (Wp 420) 420 2402 0 [(0, .ref 0), (1, .ref 1), (2, .ref 58), (3, .ref 70), (4, .int x4), (5, .int r)] 71 [] Q)))
       False)))
     False))
    False)) :
    Wp 420 2365 [(0, .ref 0), (1, .ref 1), (2, .ref 58), (3, .ref 70), (4, .int x4)] [.int r] (gE Lx) I L e Q := by
  refine w_a f_420_2365 ?_
  refine w_a (ls := [(5, .int r), (0, .ref 0), (1, .ref 1), (2, .ref 58), (3, .ref 70), (4, .int x4)]) f_420_2367 ?_
  refine w_a f_420_2368 ?_
  refine w_a f_420_2369 ?_
  refine w_a f_420_2371 ?_
  refine w_a f_420_2372 ?_
  refine w_a f_420_2373 ?_
  refine n_m (fun h => ?_) h
  refine w_a f_420_2374 ?_
  refine w_a f_420_2375 ?_
  refine w_a f_420_2377 ?_
  refine w_a f_420_2378 ?_
  refine w_a f_420_2379 ?_
  refine n_m (fun h => ?_) h
  refine w_a f_420_2380 ?_
  refine i_m (fun h => ?_) (fun h => ?_) h
  · refine w_a f_420_2387 ?_
    refine w_a f_420_2388 ?_
    refine w_a f_420_2389 ?_
    refine w_a f_420_2391 ?_
    refine w_a f_420_2392 ?_
    refine w_a f_420_2393 ?_
    refine n_m (fun h => ?_) h
    refine w_a f_420_2394 ?_
    refine i_m (fun h => ?_) (fun h => ?_) h
    · refine w_a f_420_2401 ?_
      exact w_c (ks := [0, 1, 2, 3, 4, 5]) f_420_2402 rfl rfl h
    · refine w_a f_420_2397 ?_
      refine w_a f_420_2398 ?_
      exact w_c (ks := [0, 1, 2, 3, 4, 5]) f_420_2402 rfl rfl h
  · refine w_a f_420_2383 ?_
    refine w_a f_420_2384 ?_
    refine w_a f_420_2388 ?_
    refine w_a f_420_2389 ?_
    refine w_a f_420_2391 ?_
    refine w_a f_420_2392 ?_
    refine w_a f_420_2393 ?_
    refine n_m (fun h => ?_) h
    refine w_a f_420_2394 ?_
    refine i_m (fun h => ?_) (fun h => ?_) h
    · refine w_a f_420_2401 ?_
      exact w_c (ks := [0, 1, 2, 3, 4, 5]) f_420_2402 rfl rfl h
    · refine w_a f_420_2397 ?_
      refine w_a f_420_2398 ?_
      exact w_c (ks := [0, 1, 2, 3, 4, 5]) f_420_2402 rfl rfl h
set_option maxRecDepth 10000 in
set_option maxHeartbeats 4000000 in
theorem s_420_2405 {Lx : Nat} {I : Mi} {L : Ml} {e : Nat} {Q : Kq} {x4 : Int32} {x5 : Int32} {rl : Int64} (h :
    (if (I 58 0) = x5 then
     (if x5 = 0 then
      (if (L 70 0) = rl then
       Wp 420 4917 [(0, .ref 0), (1, .ref 1), (2, .ref 58), (3, .ref 70), (4, .int x4)] [] (gE Lx) I L e Q
      else
       Q (.inl (some (.int (Int32.ofInt 0)))) (gE Lx) I L e)
     else
      Wp 420 4917 [(0, .ref 0), (1, .ref 1), (2, .ref 58), (3, .ref 70), (4, .int x4)] [] (gE Lx) I L e Q)
    else
     Q (.inl (some (.int (Int32.ofInt 0)))) (gE Lx) I L e)) :
    Wp 420 2405 [(0, .ref 0), (1, .ref 1), (2, .ref 58), (3, .ref 70), (4, .int x4), (5, .int x5)] [.long rl] (gE Lx) I L e Q := by
  refine w_a f_420_2405 ?_
  refine w_a (ls := [(6, .long rl), (0, .ref 0), (1, .ref 1), (2, .ref 58), (3, .ref 70), (4, .int x4), (5, .int x5)]) f_420_2407 ?_
  refine w_a f_420_2408 ?_
  refine w_a (ls := [(0, .ref 58)]) f_212_0 ?_
  refine w_a f_212_1 ?_
  refine w_a f_212_4 ?_
  refine w_a (ls := [(6, .long rl), (0, .ref 0), (1, .ref 1), (2, .ref 58), (3, .ref 70), (4, .int x4), (5, .int x5)]) f_420_2411 ?_
  refine w_a f_420_2413 ?_
  refine i_m (fun h => ?_) (fun h => ?_) h
  · refine w_a f_420_2418 ?_
    refine w_a f_420_2420 ?_
    refine i_m (fun h => ?_) (fun h => ?_) h
    · refine w_a f_420_2423 ?_
      refine w_a f_420_2424 ?_
      refine w_a f_420_2425 ?_
      refine w_a f_420_2426 ?_
      refine w_a f_420_2428 ?_
      refine i_m (fun h => ?_) (fun h => ?_) h
      · refine w_a f_420_2434 ?_
        exact w_n (ks := [0, 1, 2, 3, 4]) rfl h
      · refine w_a f_420_2432 ?_
        refine w_a f_420_2433 ?_
        exact h
    · refine w_a f_420_2434 ?_
      exact w_n (ks := [0, 1, 2, 3, 4]) rfl h
  · refine w_a f_420_2416 ?_
    refine w_a f_420_2417 ?_
    exact h
set_option maxRecDepth 10000 in
set_option maxHeartbeats 4000000 in
theorem s_420_2437 {Lx : Nat} {I : Mi} {L : Ml} {e : Nat} {Q : Kq} {x4 : Int32} (h :
    (inb (x4 + (Int32.ofInt 1)) Lx (
     (inb (x4 + (Int32.ofInt 2)) Lx (
      (inb (x4 + (Int32.ofInt 3)) Lx (
       (if (I 0 ((x4 + (Int32.ofInt 3)).toNatClampNeg)) = 0 then
        Wp 391 0 [(0, .ref 1), (1, .int (I 0 ((x4 + (Int32.ofInt 1)).toNatClampNeg))), (2, .int (I 0 ((x4 + (Int32.ofInt 2)).toNatClampNeg))), (3, .int (Int32.ofInt 0)), (4, .ref 70)] [] (gE Lx) I L e (kcp (Wp 420) 420 2465 0 [(0, .ref 0), (1, .ref 1), (2, .ref 58), (3, .ref 70), (4, .int x4)] 71 [] Q)
       else
        Wp 391 0 [(0, .ref 1), (1, .int (I 0 ((x4 + (Int32.ofInt 1)).toNatClampNeg))), (2, .int (I 0 ((x4 + (Int32.ofInt 2)).toNatClampNeg))), (3, .int (Int32.ofInt 1)), (4, .ref 70)] [] (gE Lx) I L e (kcp (Wp 420) 420 2465 0 [(0, .ref 0), (1, .ref 1), (2, .ref 58), (3, .ref 70), (4, .int x4)] 71 [] Q)))
      False))
     False))
    False)) :
    Wp 420 2437 [(0, .ref 0), (1, .ref 1), (2, .ref 58), (3, .ref 70), (4, .int x4)] [] (gE Lx) I L e Q := by
  refine w_a f_420_2437 ?_
  refine w_a f_420_2438 ?_
  refine w_a f_420_2439 ?_
  refine w_a f_420_2441 ?_
  refine w_a f_420_2442 ?_
  refine w_a f_420_2443 ?_
  refine n_m (fun h => ?_) h
  refine w_a f_420_2444 ?_
  refine w_a f_420_2445 ?_
  refine w_a f_420_2447 ?_
  refine w_a f_420_2448 ?_
  refine w_a f_420_2449 ?_
  refine n_m (fun h => ?_) h
  refine w_a f_420_2450 ?_
  refine w_a f_420_2451 ?_
  refine w_a f_420_2453 ?_
  refine w_a f_420_2454 ?_
  refine w_a f_420_2455 ?_
  refine n_m (fun h => ?_) h
  refine w_a f_420_2456 ?_
  refine i_m (fun h => ?_) (fun h => ?_) h
  · refine w_a f_420_2463 ?_
    refine w_a f_420_2464 ?_
    exact w_c (ks := [0, 1, 2, 3, 4]) f_420_2465 rfl rfl h
  · refine w_a f_420_2459 ?_
    refine w_a f_420_2460 ?_
    refine w_a f_420_2464 ?_
    exact w_c (ks := [0, 1, 2, 3, 4]) f_420_2465 rfl rfl h
set_option maxRecDepth 10000 in
set_option maxHeartbeats 4000000 in
theorem s_420_2468 {Lx : Nat} {I : Mi} {L : Ml} {e : Nat} {Q : Kq} {x4 : Int32} {r : Int32} (h :
    (inb (x4 + (Int32.ofInt 1)) Lx (
     (inb (x4 + (Int32.ofInt 2)) Lx (
      (inb (x4 + (Int32.ofInt 3)) Lx (
       (if (I 0 ((x4 + (Int32.ofInt 3)).toNatClampNeg)) = 0 then
        Wp 279 0 [(0, .ref 58), (1, .int (I 0 ((x4 + (Int32.ofInt 1)).toNatClampNeg))), (2, .int (I 0 ((x4 + (Int32.ofInt 2)).toNatClampNeg))), (3, .int (Int32.ofInt 0))] [] (gE Lx) I L e (kcp (Wp 420) 420 2497 0 [(0, .ref 0), (1, .ref 1), (2, .ref 58), (3, .ref 70), (4, .int x4), (5, .int r)] 71 [] Q)
       else
        Wp 279 0 [(0, .ref 58), (1, .int (I 0 ((x4 + (Int32.ofInt 1)).toNatClampNeg))), (2, .int (I 0 ((x4 + (Int32.ofInt 2)).toNatClampNeg))), (3, .int (Int32.ofInt 1))] [] (gE Lx) I L e (kcp (Wp 420) 420 2497 0 [(0, .ref 0), (1, .ref 1), (2, .ref 58), (3, .ref 70), (4, .int x4), (5, .int r)] 71 [] Q)))
      False))
     False))
    False)) :
    Wp 420 2468 [(0, .ref 0), (1, .ref 1), (2, .ref 58), (3, .ref 70), (4, .int x4)] [.int r] (gE Lx) I L e Q := by
  refine w_a f_420_2468 ?_
  refine w_a (ls := [(5, .int r), (0, .ref 0), (1, .ref 1), (2, .ref 58), (3, .ref 70), (4, .int x4)]) f_420_2470 ?_
  refine w_a f_420_2471 ?_
  refine w_a f_420_2472 ?_
  refine w_a f_420_2474 ?_
  refine w_a f_420_2475 ?_
  refine w_a f_420_2476 ?_
  refine n_m (fun h => ?_) h
  refine w_a f_420_2477 ?_
  refine w_a f_420_2478 ?_
  refine w_a f_420_2480 ?_
  refine w_a f_420_2481 ?_
  refine w_a f_420_2482 ?_
  refine n_m (fun h => ?_) h
  refine w_a f_420_2483 ?_
  refine w_a f_420_2484 ?_
  refine w_a f_420_2486 ?_
  refine w_a f_420_2487 ?_
  refine w_a f_420_2488 ?_
  refine n_m (fun h => ?_) h
  refine w_a f_420_2489 ?_
  refine i_m (fun h => ?_) (fun h => ?_) h
  · refine w_a f_420_2496 ?_
    exact w_c (ks := [0, 1, 2, 3, 4, 5]) f_420_2497 rfl rfl h
  · refine w_a f_420_2492 ?_
    refine w_a f_420_2493 ?_
    exact w_c (ks := [0, 1, 2, 3, 4, 5]) f_420_2497 rfl rfl h
set_option maxRecDepth 10000 in
set_option maxHeartbeats 4000000 in
theorem s_420_2500 {Lx : Nat} {I : Mi} {L : Ml} {e : Nat} {Q : Kq} {x4 : Int32} {x5 : Int32} {r : Int32} (h :
    (if (I 58 0) = x5 then
     (if x5 = 0 then
      (if (L 70 0) = r.toInt64 then
       Wp 420 4917 [(0, .ref 0), (1, .ref 1), (2, .ref 58), (3, .ref 70), (4, .int x4)] [] (gE Lx) I L e Q
      else
       Q (.inl (some (.int (Int32.ofInt 0)))) (gE Lx) I L e)
     else
      Wp 420 4917 [(0, .ref 0), (1, .ref 1), (2, .ref 58), (3, .ref 70), (4, .int x4)] [] (gE Lx) I L e Q)
    else
     Q (.inl (some (.int (Int32.ofInt 0)))) (gE Lx) I L e)) :
    Wp 420 2500 [(0, .ref 0), (1, .ref 1), (2, .ref 58), (3, .ref 70), (4, .int x4), (5, .int x5)] [.int r] (gE Lx) I L e Q := by
  refine w_a f_420_2500 ?_
  refine w_a (ls := [(6, .int r), (0, .ref 0), (1, .ref 1), (2, .ref 58), (3, .ref 70), (4, .int x4), (5, .int x5)]) f_420_2502 ?_
  refine w_a f_420_2503 ?_
  refine w_a (ls := [(0, .ref 58)]) f_212_0 ?_
  refine w_a f_212_1 ?_
  refine w_a f_212_4 ?_
  refine w_a (ls := [(6, .int r), (0, .ref 0), (1, .ref 1), (2, .ref 58), (3, .ref 70), (4, .int x4), (5, .int x5)]) f_420_2506 ?_
  refine w_a f_420_2508 ?_
  refine i_m (fun h => ?_) (fun h => ?_) h
  · refine w_a f_420_2513 ?_
    refine w_a f_420_2515 ?_
    refine i_m (fun h => ?_) (fun h => ?_) h
    · refine w_a f_420_2518 ?_
      refine w_a f_420_2519 ?_
      refine w_a f_420_2520 ?_
      refine w_a f_420_2521 ?_
      refine w_a f_420_2523 ?_
      refine w_a f_420_2524 ?_
      refine i_m (fun h => ?_) (fun h => ?_) h
      · refine w_a f_420_2530 ?_
        exact w_n (ks := [0, 1, 2, 3, 4]) rfl h
      · refine w_a f_420_2528 ?_
        refine w_a f_420_2529 ?_
        exact h
    · refine w_a f_420_2530 ?_
      exact w_n (ks := [0, 1, 2, 3, 4]) rfl h
  · refine w_a f_420_2511 ?_
    refine w_a f_420_2512 ?_
    exact h
set_option maxRecDepth 10000 in
set_option maxHeartbeats 4000000 in
theorem s_420_2533 {Lx : Nat} {I : Mi} {L : Ml} {e : Nat} {Q : Kq} {x4 : Int32} (h :
    (inb (x4 + (Int32.ofInt 1)) Lx (
     (inb (x4 + (Int32.ofInt 2)) Lx (
      (if (I 0 ((x4 + (Int32.ofInt 2)).toNatClampNeg)) = 0 then
       (inb (x4 + (Int32.ofInt 3)) Lx (
        (inb (x4 + (Int32.ofInt 4)) Lx (
         Wp 392 0 [(0, .ref 1), (1, .int (I 0 ((x4 + (Int32.ofInt 1)).toNatClampNeg))), (2, .int (Int32.ofInt 0)), (3, .int (I 0 ((x4 + (Int32.ofInt 3)).toNatClampNeg))), (4, .int (I 0 ((x4 + (Int32.ofInt 4)).toNatClampNeg))), (5, .ref 70)] [] (gE Lx) I L e (kcp (Wp 420) 420 2567 0 [(0, .ref 0), (1, .ref 1), (2, .ref 58), (3, .ref 70), (4, .int x4)] 71 [] Q))
        False))
       False)
      else
       (inb (x4 + (Int32.ofInt 3)) Lx (
        (inb (x4 + (Int32.ofInt 4)) Lx (
         Wp 392 0 [(0, .ref 1), (1, .int (I 0 ((x4 + (Int32.ofInt 1)).toNatClampNeg))), (2, .int (Int32.ofInt 1)), (3, .int (I 0 ((x4 + (Int32.ofInt 3)).toNatClampNeg))), (4, .int (I 0 ((x4 + (Int32.ofInt 4)).toNatClampNeg))), (5, .ref 70)] [] (gE Lx) I L e (kcp (Wp 420) 420 2567 0 [(0, .ref 0), (1, .ref 1), (2, .ref 58), (3, .ref 70), (4, .int x4)] 71 [] Q))
        False))
       False)))
     False))
    False)) :
    Wp 420 2533 [(0, .ref 0), (1, .ref 1), (2, .ref 58), (3, .ref 70), (4, .int x4)] [] (gE Lx) I L e Q := by
  refine w_a f_420_2533 ?_
  refine w_a f_420_2534 ?_
  refine w_a f_420_2535 ?_
  refine w_a f_420_2537 ?_
  refine w_a f_420_2538 ?_
  refine w_a f_420_2539 ?_
  refine n_m (fun h => ?_) h
  refine w_a f_420_2540 ?_
  refine w_a f_420_2541 ?_
  refine w_a f_420_2543 ?_
  refine w_a f_420_2544 ?_
  refine w_a f_420_2545 ?_
  refine n_m (fun h => ?_) h
  refine w_a f_420_2546 ?_
  refine i_m (fun h => ?_) (fun h => ?_) h
  · refine w_a f_420_2553 ?_
    refine w_a f_420_2554 ?_
    refine w_a f_420_2555 ?_
    refine w_a f_420_2557 ?_
    refine w_a f_420_2558 ?_
    refine w_a f_420_2559 ?_
    refine n_m (fun h => ?_) h
    refine w_a f_420_2560 ?_
    refine w_a f_420_2561 ?_
    refine w_a f_420_2563 ?_
    refine w_a f_420_2564 ?_
    refine w_a f_420_2565 ?_
    refine n_m (fun h => ?_) h
    refine w_a f_420_2566 ?_
    exact w_c (ks := [0, 1, 2, 3, 4]) f_420_2567 rfl rfl h
  · refine w_a f_420_2549 ?_
    refine w_a f_420_2550 ?_
    refine w_a f_420_2554 ?_
    refine w_a f_420_2555 ?_
    refine w_a f_420_2557 ?_
    refine w_a f_420_2558 ?_
    refine w_a f_420_2559 ?_
    refine n_m (fun h => ?_) h
    refine w_a f_420_2560 ?_
    refine w_a f_420_2561 ?_
    refine w_a f_420_2563 ?_
    refine w_a f_420_2564 ?_
    refine w_a f_420_2565 ?_
    refine n_m (fun h => ?_) h
    refine w_a f_420_2566 ?_
    exact w_c (ks := [0, 1, 2, 3, 4]) f_420_2567 rfl rfl h
set_option maxRecDepth 10000 in
set_option maxHeartbeats 4000000 in
theorem s_420_2570 {Lx : Nat} {I : Mi} {L : Ml} {e : Nat} {Q : Kq} {x4 : Int32} {r : Int32} (h :
    (inb (x4 + (Int32.ofInt 1)) Lx (
     (inb (x4 + (Int32.ofInt 2)) Lx (
      (if (I 0 ((x4 + (Int32.ofInt 2)).toNatClampNeg)) = 0 then
       (inb (x4 + (Int32.ofInt 3)) Lx (
        (inb (x4 + (Int32.ofInt 4)) Lx (
         Wp 281 0 [(0, .ref 58), (1, .int (I 0 ((x4 + (Int32.ofInt 1)).toNatClampNeg))), (2, .int (Int32.ofInt 0)), (3, .int (I 0 ((x4 + (Int32.ofInt 3)).toNatClampNeg))), (4, .int (I 0 ((x4 + (Int32.ofInt 4)).toNatClampNeg)))] [] (gE Lx) I L e (kcp (Wp 420) 420 2605 0 [(0, .ref 0), (1, .ref 1), (2, .ref 58), (3, .ref 70), (4, .int x4), (5, .int r)] 71 [] Q))
        False))
       False)
      else
       (inb (x4 + (Int32.ofInt 3)) Lx (
        (inb (x4 + (Int32.ofInt 4)) Lx (
         Wp 281 0 [(0, .ref 58), (1, .int (I 0 ((x4 + (Int32.ofInt 1)).toNatClampNeg))), (2, .int (Int32.ofInt 1)), (3, .int (I 0 ((x4 + (Int32.ofInt 3)).toNatClampNeg))), (4, .int (I 0 ((x4 + (Int32.ofInt 4)).toNatClampNeg)))] [] (gE Lx) I L e (kcp (Wp 420) 420 2605 0 [(0, .ref 0), (1, .ref 1), (2, .ref 58), (3, .ref 70), (4, .int x4), (5, .int r)] 71 [] Q))
        False))
       False)))
     False))
    False)) :
    Wp 420 2570 [(0, .ref 0), (1, .ref 1), (2, .ref 58), (3, .ref 70), (4, .int x4)] [.int r] (gE Lx) I L e Q := by
  refine w_a f_420_2570 ?_
  refine w_a (ls := [(5, .int r), (0, .ref 0), (1, .ref 1), (2, .ref 58), (3, .ref 70), (4, .int x4)]) f_420_2572 ?_
  refine w_a f_420_2573 ?_
  refine w_a f_420_2574 ?_
  refine w_a f_420_2576 ?_
  refine w_a f_420_2577 ?_
  refine w_a f_420_2578 ?_
  refine n_m (fun h => ?_) h
  refine w_a f_420_2579 ?_
  refine w_a f_420_2580 ?_
  refine w_a f_420_2582 ?_
  refine w_a f_420_2583 ?_
  refine w_a f_420_2584 ?_
  refine n_m (fun h => ?_) h
  refine w_a f_420_2585 ?_
  refine i_m (fun h => ?_) (fun h => ?_) h
  · refine w_a f_420_2592 ?_
    refine w_a f_420_2593 ?_
    refine w_a f_420_2594 ?_
    refine w_a f_420_2596 ?_
    refine w_a f_420_2597 ?_
    refine w_a f_420_2598 ?_
    refine n_m (fun h => ?_) h
    refine w_a f_420_2599 ?_
    refine w_a f_420_2600 ?_
    refine w_a f_420_2602 ?_
    refine w_a f_420_2603 ?_
    refine w_a f_420_2604 ?_
    refine n_m (fun h => ?_) h
    exact w_c (ks := [0, 1, 2, 3, 4, 5]) f_420_2605 rfl rfl h
  · refine w_a f_420_2588 ?_
    refine w_a f_420_2589 ?_
    refine w_a f_420_2593 ?_
    refine w_a f_420_2594 ?_
    refine w_a f_420_2596 ?_
    refine w_a f_420_2597 ?_
    refine w_a f_420_2598 ?_
    refine n_m (fun h => ?_) h
    refine w_a f_420_2599 ?_
    refine w_a f_420_2600 ?_
    refine w_a f_420_2602 ?_
    refine w_a f_420_2603 ?_
    refine w_a f_420_2604 ?_
    refine n_m (fun h => ?_) h
    exact w_c (ks := [0, 1, 2, 3, 4, 5]) f_420_2605 rfl rfl h
set_option maxRecDepth 10000 in
set_option maxHeartbeats 4000000 in
theorem s_420_2608 {Lx : Nat} {I : Mi} {L : Ml} {e : Nat} {Q : Kq} {x4 : Int32} {x5 : Int32} {r : Int32} (h :
    (if (I 58 0) = x5 then
     (if x5 = 0 then
      (if (L 70 0) = r.toInt64 then
       Wp 420 4917 [(0, .ref 0), (1, .ref 1), (2, .ref 58), (3, .ref 70), (4, .int x4)] [] (gE Lx) I L e Q
      else
       Q (.inl (some (.int (Int32.ofInt 0)))) (gE Lx) I L e)
     else
      Wp 420 4917 [(0, .ref 0), (1, .ref 1), (2, .ref 58), (3, .ref 70), (4, .int x4)] [] (gE Lx) I L e Q)
    else
     Q (.inl (some (.int (Int32.ofInt 0)))) (gE Lx) I L e)) :
    Wp 420 2608 [(0, .ref 0), (1, .ref 1), (2, .ref 58), (3, .ref 70), (4, .int x4), (5, .int x5)] [.int r] (gE Lx) I L e Q := by
  refine w_a f_420_2608 ?_
  refine w_a (ls := [(6, .int r), (0, .ref 0), (1, .ref 1), (2, .ref 58), (3, .ref 70), (4, .int x4), (5, .int x5)]) f_420_2610 ?_
  refine w_a f_420_2611 ?_
  refine w_a (ls := [(0, .ref 58)]) f_212_0 ?_
  refine w_a f_212_1 ?_
  refine w_a f_212_4 ?_
  refine w_a (ls := [(6, .int r), (0, .ref 0), (1, .ref 1), (2, .ref 58), (3, .ref 70), (4, .int x4), (5, .int x5)]) f_420_2614 ?_
  refine w_a f_420_2616 ?_
  refine i_m (fun h => ?_) (fun h => ?_) h
  · refine w_a f_420_2621 ?_
    refine w_a f_420_2623 ?_
    refine i_m (fun h => ?_) (fun h => ?_) h
    · refine w_a f_420_2626 ?_
      refine w_a f_420_2627 ?_
      refine w_a f_420_2628 ?_
      refine w_a f_420_2629 ?_
      refine w_a f_420_2631 ?_
      refine w_a f_420_2632 ?_
      refine i_m (fun h => ?_) (fun h => ?_) h
      · refine w_a f_420_2638 ?_
        exact w_n (ks := [0, 1, 2, 3, 4]) rfl h
      · refine w_a f_420_2636 ?_
        refine w_a f_420_2637 ?_
        exact h
    · refine w_a f_420_2638 ?_
      exact w_n (ks := [0, 1, 2, 3, 4]) rfl h
  · refine w_a f_420_2619 ?_
    refine w_a f_420_2620 ?_
    exact h
set_option maxRecDepth 10000 in
set_option maxHeartbeats 4000000 in
theorem s_420_2641 {Lx : Nat} {I : Mi} {L : Ml} {e : Nat} {Q : Kq} {x4 : Int32} (h :
    (inb (x4 + (Int32.ofInt 1)) Lx (
     (inb (x4 + (Int32.ofInt 2)) Lx (
      (if (I 0 ((x4 + (Int32.ofInt 2)).toNatClampNeg)) = 0 then
       (inb (x4 + (Int32.ofInt 3)) Lx (
        (inb (x4 + (Int32.ofInt 4)) Lx (
         (inb (x4 + (Int32.ofInt 5)) Lx (
          (inb (x4 + (Int32.ofInt 6)) Lx (
           (if (I 0 ((x4 + (Int32.ofInt 6)).toNatClampNeg)) = 0 then
            (inb (x4 + (Int32.ofInt 7)) Lx (
             (if (I 0 ((x4 + (Int32.ofInt 7)).toNatClampNeg)) = 0 then
              Wp 393 0 [(0, .ref 1), (1, .int (I 0 ((x4 + (Int32.ofInt 1)).toNatClampNeg))), (2, .int (Int32.ofInt 0)), (3, .int (I 0 ((x4 + (Int32.ofInt 3)).toNatClampNeg))), (4, .int (I 0 ((x4 + (Int32.ofInt 4)).toNatClampNeg))), (5, .int (I 0 ((x4 + (Int32.ofInt 5)).toNatClampNeg))), (6, .int (Int32.ofInt 0)), (7, .int (Int32.ofInt 0)), (8, .ref 70)] [] (gE Lx) I L e (kcp (Wp 420) 420 2711 0 [(0, .ref 0), (1, .ref 1), (2, .ref 58), (3, .ref 70), (4, .int x4)] 71 [] Q)
             else
              Wp 393 0 [(0, .ref 1), (1, .int (I 0 ((x4 + (Int32.ofInt 1)).toNatClampNeg))), (2, .int (Int32.ofInt 0)), (3, .int (I 0 ((x4 + (Int32.ofInt 3)).toNatClampNeg))), (4, .int (I 0 ((x4 + (Int32.ofInt 4)).toNatClampNeg))), (5, .int (I 0 ((x4 + (Int32.ofInt 5)).toNatClampNeg))), (6, .int (Int32.ofInt 0)), (7, .int (Int32.ofInt 1)), (8, .ref 70)] [] (gE Lx) I L e (kcp (Wp 420) 420 2711 0 [(0, .ref 0), (1, .ref 1), (2, .ref 58), (3, .ref 70), (4, .int x4)] 71 [] Q)))
            False)
           else
            (inb (x4 + (Int32.ofInt 7)) Lx (
             (if (I 0 ((x4 + (Int32.ofInt 7)).toNatClampNeg)) = 0 then
              Wp 393 0 [(0, .ref 1), (1, .int (I 0 ((x4 + (Int32.ofInt 1)).toNatClampNeg))), (2, .int (Int32.ofInt 0)), (3, .int (I 0 ((x4 + (Int32.ofInt 3)).toNatClampNeg))), (4, .int (I 0 ((x4 + (Int32.ofInt 4)).toNatClampNeg))), (5, .int (I 0 ((x4 + (Int32.ofInt 5)).toNatClampNeg))), (6, .int (Int32.ofInt 1)), (7, .int (Int32.ofInt 0)), (8, .ref 70)] [] (gE Lx) I L e (kcp (Wp 420) 420 2711 0 [(0, .ref 0), (1, .ref 1), (2, .ref 58), (3, .ref 70), (4, .int x4)] 71 [] Q)
             else
              Wp 393 0 [(0, .ref 1), (1, .int (I 0 ((x4 + (Int32.ofInt 1)).toNatClampNeg))), (2, .int (Int32.ofInt 0)), (3, .int (I 0 ((x4 + (Int32.ofInt 3)).toNatClampNeg))), (4, .int (I 0 ((x4 + (Int32.ofInt 4)).toNatClampNeg))), (5, .int (I 0 ((x4 + (Int32.ofInt 5)).toNatClampNeg))), (6, .int (Int32.ofInt 1)), (7, .int (Int32.ofInt 1)), (8, .ref 70)] [] (gE Lx) I L e (kcp (Wp 420) 420 2711 0 [(0, .ref 0), (1, .ref 1), (2, .ref 58), (3, .ref 70), (4, .int x4)] 71 [] Q)))
            False)))
          False))
         False))
        False))
       False)
      else
       (inb (x4 + (Int32.ofInt 3)) Lx (
        (inb (x4 + (Int32.ofInt 4)) Lx (
         (inb (x4 + (Int32.ofInt 5)) Lx (
          (inb (x4 + (Int32.ofInt 6)) Lx (
           (if (I 0 ((x4 + (Int32.ofInt 6)).toNatClampNeg)) = 0 then
            (inb (x4 + (Int32.ofInt 7)) Lx (
             (if (I 0 ((x4 + (Int32.ofInt 7)).toNatClampNeg)) = 0 then
              Wp 393 0 [(0, .ref 1), (1, .int (I 0 ((x4 + (Int32.ofInt 1)).toNatClampNeg))), (2, .int (Int32.ofInt 1)), (3, .int (I 0 ((x4 + (Int32.ofInt 3)).toNatClampNeg))), (4, .int (I 0 ((x4 + (Int32.ofInt 4)).toNatClampNeg))), (5, .int (I 0 ((x4 + (Int32.ofInt 5)).toNatClampNeg))), (6, .int (Int32.ofInt 0)), (7, .int (Int32.ofInt 0)), (8, .ref 70)] [] (gE Lx) I L e (kcp (Wp 420) 420 2711 0 [(0, .ref 0), (1, .ref 1), (2, .ref 58), (3, .ref 70), (4, .int x4)] 71 [] Q)
             else
              Wp 393 0 [(0, .ref 1), (1, .int (I 0 ((x4 + (Int32.ofInt 1)).toNatClampNeg))), (2, .int (Int32.ofInt 1)), (3, .int (I 0 ((x4 + (Int32.ofInt 3)).toNatClampNeg))), (4, .int (I 0 ((x4 + (Int32.ofInt 4)).toNatClampNeg))), (5, .int (I 0 ((x4 + (Int32.ofInt 5)).toNatClampNeg))), (6, .int (Int32.ofInt 0)), (7, .int (Int32.ofInt 1)), (8, .ref 70)] [] (gE Lx) I L e (kcp (Wp 420) 420 2711 0 [(0, .ref 0), (1, .ref 1), (2, .ref 58), (3, .ref 70), (4, .int x4)] 71 [] Q)))
            False)
           else
            (inb (x4 + (Int32.ofInt 7)) Lx (
             (if (I 0 ((x4 + (Int32.ofInt 7)).toNatClampNeg)) = 0 then
              Wp 393 0 [(0, .ref 1), (1, .int (I 0 ((x4 + (Int32.ofInt 1)).toNatClampNeg))), (2, .int (Int32.ofInt 1)), (3, .int (I 0 ((x4 + (Int32.ofInt 3)).toNatClampNeg))), (4, .int (I 0 ((x4 + (Int32.ofInt 4)).toNatClampNeg))), (5, .int (I 0 ((x4 + (Int32.ofInt 5)).toNatClampNeg))), (6, .int (Int32.ofInt 1)), (7, .int (Int32.ofInt 0)), (8, .ref 70)] [] (gE Lx) I L e (kcp (Wp 420) 420 2711 0 [(0, .ref 0), (1, .ref 1), (2, .ref 58), (3, .ref 70), (4, .int x4)] 71 [] Q)
             else
              Wp 393 0 [(0, .ref 1), (1, .int (I 0 ((x4 + (Int32.ofInt 1)).toNatClampNeg))), (2, .int (Int32.ofInt 1)), (3, .int (I 0 ((x4 + (Int32.ofInt 3)).toNatClampNeg))), (4, .int (I 0 ((x4 + (Int32.ofInt 4)).toNatClampNeg))), (5, .int (I 0 ((x4 + (Int32.ofInt 5)).toNatClampNeg))), (6, .int (Int32.ofInt 1)), (7, .int (Int32.ofInt 1)), (8, .ref 70)] [] (gE Lx) I L e (kcp (Wp 420) 420 2711 0 [(0, .ref 0), (1, .ref 1), (2, .ref 58), (3, .ref 70), (4, .int x4)] 71 [] Q)))
            False)))
          False))
         False))
        False))
       False)))
     False))
    False)) :
    Wp 420 2641 [(0, .ref 0), (1, .ref 1), (2, .ref 58), (3, .ref 70), (4, .int x4)] [] (gE Lx) I L e Q := by
  refine w_a f_420_2641 ?_
  refine w_a f_420_2642 ?_
  refine w_a f_420_2643 ?_
  refine w_a f_420_2645 ?_
  refine w_a f_420_2646 ?_
  refine w_a f_420_2647 ?_
  refine n_m (fun h => ?_) h
  refine w_a f_420_2648 ?_
  refine w_a f_420_2649 ?_
  refine w_a f_420_2651 ?_
  refine w_a f_420_2652 ?_
  refine w_a f_420_2653 ?_
  refine n_m (fun h => ?_) h
  refine w_a f_420_2654 ?_
  refine i_m (fun h => ?_) (fun h => ?_) h
  · refine w_a f_420_2661 ?_
    refine w_a f_420_2662 ?_
    refine w_a f_420_2663 ?_
    refine w_a f_420_2665 ?_
    refine w_a f_420_2666 ?_
    refine w_a f_420_2667 ?_
    refine n_m (fun h => ?_) h
    refine w_a f_420_2668 ?_
    refine w_a f_420_2669 ?_
    refine w_a f_420_2671 ?_
    refine w_a f_420_2672 ?_
    refine w_a f_420_2673 ?_
    refine n_m (fun h => ?_) h
    refine w_a f_420_2674 ?_
    refine w_a f_420_2675 ?_
    refine w_a f_420_2677 ?_
    refine w_a f_420_2678 ?_
    refine w_a f_420_2679 ?_
    refine n_m (fun h => ?_) h
    refine w_a f_420_2680 ?_
    refine w_a f_420_2681 ?_
    refine w_a f_420_2683 ?_
    refine w_a f_420_2685 ?_
    refine w_a f_420_2686 ?_
    refine n_m (fun h => ?_) h
    refine w_a f_420_2687 ?_
    refine i_m (fun h => ?_) (fun h => ?_) h
    · refine w_a f_420_2694 ?_
      refine w_a f_420_2695 ?_
      refine w_a f_420_2696 ?_
      refine w_a f_420_2698 ?_
      refine w_a f_420_2700 ?_
      refine w_a f_420_2701 ?_
      refine n_m (fun h => ?_) h
      refine w_a f_420_2702 ?_
      refine i_m (fun h => ?_) (fun h => ?_) h
      · refine w_a f_420_2709 ?_
        refine w_a f_420_2710 ?_
        exact w_c (ks := [0, 1, 2, 3, 4]) f_420_2711 rfl rfl h
      · refine w_a f_420_2705 ?_
        refine w_a f_420_2706 ?_
        refine w_a f_420_2710 ?_
        exact w_c (ks := [0, 1, 2, 3, 4]) f_420_2711 rfl rfl h
    · refine w_a f_420_2690 ?_
      refine w_a f_420_2691 ?_
      refine w_a f_420_2695 ?_
      refine w_a f_420_2696 ?_
      refine w_a f_420_2698 ?_
      refine w_a f_420_2700 ?_
      refine w_a f_420_2701 ?_
      refine n_m (fun h => ?_) h
      refine w_a f_420_2702 ?_
      refine i_m (fun h => ?_) (fun h => ?_) h
      · refine w_a f_420_2709 ?_
        refine w_a f_420_2710 ?_
        exact w_c (ks := [0, 1, 2, 3, 4]) f_420_2711 rfl rfl h
      · refine w_a f_420_2705 ?_
        refine w_a f_420_2706 ?_
        refine w_a f_420_2710 ?_
        exact w_c (ks := [0, 1, 2, 3, 4]) f_420_2711 rfl rfl h
  · refine w_a f_420_2657 ?_
    refine w_a f_420_2658 ?_
    refine w_a f_420_2662 ?_
    refine w_a f_420_2663 ?_
    refine w_a f_420_2665 ?_
    refine w_a f_420_2666 ?_
    refine w_a f_420_2667 ?_
    refine n_m (fun h => ?_) h
    refine w_a f_420_2668 ?_
    refine w_a f_420_2669 ?_
    refine w_a f_420_2671 ?_
    refine w_a f_420_2672 ?_
    refine w_a f_420_2673 ?_
    refine n_m (fun h => ?_) h
    refine w_a f_420_2674 ?_
    refine w_a f_420_2675 ?_
    refine w_a f_420_2677 ?_
    refine w_a f_420_2678 ?_
    refine w_a f_420_2679 ?_
    refine n_m (fun h => ?_) h
    refine w_a f_420_2680 ?_
    refine w_a f_420_2681 ?_
    refine w_a f_420_2683 ?_
    refine w_a f_420_2685 ?_
    refine w_a f_420_2686 ?_
    refine n_m (fun h => ?_) h
    refine w_a f_420_2687 ?_
    refine i_m (fun h => ?_) (fun h => ?_) h
    · refine w_a f_420_2694 ?_
      refine w_a f_420_2695 ?_
      refine w_a f_420_2696 ?_
      refine w_a f_420_2698 ?_
      refine w_a f_420_2700 ?_
      refine w_a f_420_2701 ?_
      refine n_m (fun h => ?_) h
      refine w_a f_420_2702 ?_
      refine i_m (fun h => ?_) (fun h => ?_) h
      · refine w_a f_420_2709 ?_
        refine w_a f_420_2710 ?_
        exact w_c (ks := [0, 1, 2, 3, 4]) f_420_2711 rfl rfl h
      · refine w_a f_420_2705 ?_
        refine w_a f_420_2706 ?_
        refine w_a f_420_2710 ?_
        exact w_c (ks := [0, 1, 2, 3, 4]) f_420_2711 rfl rfl h
    · refine w_a f_420_2690 ?_
      refine w_a f_420_2691 ?_
      refine w_a f_420_2695 ?_
      refine w_a f_420_2696 ?_
      refine w_a f_420_2698 ?_
      refine w_a f_420_2700 ?_
      refine w_a f_420_2701 ?_
      refine n_m (fun h => ?_) h
      refine w_a f_420_2702 ?_
      refine i_m (fun h => ?_) (fun h => ?_) h
      · refine w_a f_420_2709 ?_
        refine w_a f_420_2710 ?_
        exact w_c (ks := [0, 1, 2, 3, 4]) f_420_2711 rfl rfl h
      · refine w_a f_420_2705 ?_
        refine w_a f_420_2706 ?_
        refine w_a f_420_2710 ?_
        exact w_c (ks := [0, 1, 2, 3, 4]) f_420_2711 rfl rfl h
set_option maxRecDepth 10000 in
set_option maxHeartbeats 4000000 in
theorem s_420_2714 {Lx : Nat} {I : Mi} {L : Ml} {e : Nat} {Q : Kq} {x4 : Int32} {r : Int32} (h :
    (inb (x4 + (Int32.ofInt 1)) Lx (
     (inb (x4 + (Int32.ofInt 2)) Lx (
      (if (I 0 ((x4 + (Int32.ofInt 2)).toNatClampNeg)) = 0 then
       (inb (x4 + (Int32.ofInt 3)) Lx (
        (inb (x4 + (Int32.ofInt 4)) Lx (
         (inb (x4 + (Int32.ofInt 5)) Lx (
          (inb (x4 + (Int32.ofInt 6)) Lx (
           (if (I 0 ((x4 + (Int32.ofInt 6)).toNatClampNeg)) = 0 then
            (inb (x4 + (Int32.ofInt 7)) Lx (
             (if (I 0 ((x4 + (Int32.ofInt 7)).toNatClampNeg)) = 0 then
              Wp 285 0 [(0, .ref 58), (1, .int (I 0 ((x4 + (Int32.ofInt 1)).toNatClampNeg))), (2, .int (Int32.ofInt 0)), (3, .int (I 0 ((x4 + (Int32.ofInt 3)).toNatClampNeg))), (4, .int (I 0 ((x4 + (Int32.ofInt 4)).toNatClampNeg))), (5, .int (I 0 ((x4 + (Int32.ofInt 5)).toNatClampNeg))), (6, .int (Int32.ofInt 0)), (7, .int (Int32.ofInt 0))] [] (gE Lx) I L e (kcp (Wp 420) 420 2785 0 [(0, .ref 0), (1, .ref 1), (2, .ref 58), (3, .ref 70), (4, .int x4), (5, .int r)] 71 [] Q)
             else
              Wp 285 0 [(0, .ref 58), (1, .int (I 0 ((x4 + (Int32.ofInt 1)).toNatClampNeg))), (2, .int (Int32.ofInt 0)), (3, .int (I 0 ((x4 + (Int32.ofInt 3)).toNatClampNeg))), (4, .int (I 0 ((x4 + (Int32.ofInt 4)).toNatClampNeg))), (5, .int (I 0 ((x4 + (Int32.ofInt 5)).toNatClampNeg))), (6, .int (Int32.ofInt 0)), (7, .int (Int32.ofInt 1))] [] (gE Lx) I L e (kcp (Wp 420) 420 2785 0 [(0, .ref 0), (1, .ref 1), (2, .ref 58), (3, .ref 70), (4, .int x4), (5, .int r)] 71 [] Q)))
            False)
           else
            (inb (x4 + (Int32.ofInt 7)) Lx (
             (if (I 0 ((x4 + (Int32.ofInt 7)).toNatClampNeg)) = 0 then
              Wp 285 0 [(0, .ref 58), (1, .int (I 0 ((x4 + (Int32.ofInt 1)).toNatClampNeg))), (2, .int (Int32.ofInt 0)), (3, .int (I 0 ((x4 + (Int32.ofInt 3)).toNatClampNeg))), (4, .int (I 0 ((x4 + (Int32.ofInt 4)).toNatClampNeg))), (5, .int (I 0 ((x4 + (Int32.ofInt 5)).toNatClampNeg))), (6, .int (Int32.ofInt 1)), (7, .int (Int32.ofInt 0))] [] (gE Lx) I L e (kcp (Wp 420) 420 2785 0 [(0, .ref 0), (1, .ref 1), (2, .ref 58), (3, .ref 70), (4, .int x4), (5, .int r)] 71 [] Q)
             else
              Wp 285 0 [(0, .ref 58), (1, .int (I 0 ((x4 + (Int32.ofInt 1)).toNatClampNeg))), (2, .int (Int32.ofInt 0)), (3, .int (I 0 ((x4 + (Int32.ofInt 3)).toNatClampNeg))), (4, .int (I 0 ((x4 + (Int32.ofInt 4)).toNatClampNeg))), (5, .int (I 0 ((x4 + (Int32.ofInt 5)).toNatClampNeg))), (6, .int (Int32.ofInt 1)), (7, .int (Int32.ofInt 1))] [] (gE Lx) I L e (kcp (Wp 420) 420 2785 0 [(0, .ref 0), (1, .ref 1), (2, .ref 58), (3, .ref 70), (4, .int x4), (5, .int r)] 71 [] Q)))
            False)))
          False))
         False))
        False))
       False)
      else
       (inb (x4 + (Int32.ofInt 3)) Lx (
        (inb (x4 + (Int32.ofInt 4)) Lx (
         (inb (x4 + (Int32.ofInt 5)) Lx (
          (inb (x4 + (Int32.ofInt 6)) Lx (
           (if (I 0 ((x4 + (Int32.ofInt 6)).toNatClampNeg)) = 0 then
            (inb (x4 + (Int32.ofInt 7)) Lx (
             (if (I 0 ((x4 + (Int32.ofInt 7)).toNatClampNeg)) = 0 then
              Wp 285 0 [(0, .ref 58), (1, .int (I 0 ((x4 + (Int32.ofInt 1)).toNatClampNeg))), (2, .int (Int32.ofInt 1)), (3, .int (I 0 ((x4 + (Int32.ofInt 3)).toNatClampNeg))), (4, .int (I 0 ((x4 + (Int32.ofInt 4)).toNatClampNeg))), (5, .int (I 0 ((x4 + (Int32.ofInt 5)).toNatClampNeg))), (6, .int (Int32.ofInt 0)), (7, .int (Int32.ofInt 0))] [] (gE Lx) I L e (kcp (Wp 420) 420 2785 0 [(0, .ref 0), (1, .ref 1), (2, .ref 58), (3, .ref 70), (4, .int x4), (5, .int r)] 71 [] Q)
             else
              Wp 285 0 [(0, .ref 58), (1, .int (I 0 ((x4 + (Int32.ofInt 1)).toNatClampNeg))), (2, .int (Int32.ofInt 1)), (3, .int (I 0 ((x4 + (Int32.ofInt 3)).toNatClampNeg))), (4, .int (I 0 ((x4 + (Int32.ofInt 4)).toNatClampNeg))), (5, .int (I 0 ((x4 + (Int32.ofInt 5)).toNatClampNeg))), (6, .int (Int32.ofInt 0)), (7, .int (Int32.ofInt 1))] [] (gE Lx) I L e (kcp (Wp 420) 420 2785 0 [(0, .ref 0), (1, .ref 1), (2, .ref 58), (3, .ref 70), (4, .int x4), (5, .int r)] 71 [] Q)))
            False)
           else
            (inb (x4 + (Int32.ofInt 7)) Lx (
             (if (I 0 ((x4 + (Int32.ofInt 7)).toNatClampNeg)) = 0 then
              Wp 285 0 [(0, .ref 58), (1, .int (I 0 ((x4 + (Int32.ofInt 1)).toNatClampNeg))), (2, .int (Int32.ofInt 1)), (3, .int (I 0 ((x4 + (Int32.ofInt 3)).toNatClampNeg))), (4, .int (I 0 ((x4 + (Int32.ofInt 4)).toNatClampNeg))), (5, .int (I 0 ((x4 + (Int32.ofInt 5)).toNatClampNeg))), (6, .int (Int32.ofInt 1)), (7, .int (Int32.ofInt 0))] [] (gE Lx) I L e (kcp (Wp 420) 420 2785 0 [(0, .ref 0), (1, .ref 1), (2, .ref 58), (3, .ref 70), (4, .int x4), (5, .int r)] 71 [] Q)
             else
              Wp 285 0 [(0, .ref 58), (1, .int (I 0 ((x4 + (Int32.ofInt 1)).toNatClampNeg))), (2, .int (Int32.ofInt 1)), (3, .int (I 0 ((x4 + (Int32.ofInt 3)).toNatClampNeg))), (4, .int (I 0 ((x4 + (Int32.ofInt 4)).toNatClampNeg))), (5, .int (I 0 ((x4 + (Int32.ofInt 5)).toNatClampNeg))), (6, .int (Int32.ofInt 1)), (7, .int (Int32.ofInt 1))] [] (gE Lx) I L e (kcp (Wp 420) 420 2785 0 [(0, .ref 0), (1, .ref 1), (2, .ref 58), (3, .ref 70), (4, .int x4), (5, .int r)] 71 [] Q)))
            False)))
          False))
         False))
        False))
       False)))
     False))
    False)) :
    Wp 420 2714 [(0, .ref 0), (1, .ref 1), (2, .ref 58), (3, .ref 70), (4, .int x4)] [.int r] (gE Lx) I L e Q := by
  refine w_a f_420_2714 ?_
  refine w_a (ls := [(5, .int r), (0, .ref 0), (1, .ref 1), (2, .ref 58), (3, .ref 70), (4, .int x4)]) f_420_2716 ?_
  refine w_a f_420_2717 ?_
  refine w_a f_420_2718 ?_
  refine w_a f_420_2720 ?_
  refine w_a f_420_2721 ?_
  refine w_a f_420_2722 ?_
  refine n_m (fun h => ?_) h
  refine w_a f_420_2723 ?_
  refine w_a f_420_2724 ?_
  refine w_a f_420_2726 ?_
  refine w_a f_420_2727 ?_
  refine w_a f_420_2728 ?_
  refine n_m (fun h => ?_) h
  refine w_a f_420_2729 ?_
  refine i_m (fun h => ?_) (fun h => ?_) h
  · refine w_a f_420_2736 ?_
    refine w_a f_420_2737 ?_
    refine w_a f_420_2738 ?_
    refine w_a f_420_2740 ?_
    refine w_a f_420_2741 ?_
    refine w_a f_420_2742 ?_
    refine n_m (fun h => ?_) h
    refine w_a f_420_2743 ?_
    refine w_a f_420_2744 ?_
    refine w_a f_420_2746 ?_
    refine w_a f_420_2747 ?_
    refine w_a f_420_2748 ?_
    refine n_m (fun h => ?_) h
    refine w_a f_420_2749 ?_
    refine w_a f_420_2750 ?_
    refine w_a f_420_2752 ?_
    refine w_a f_420_2753 ?_
    refine w_a f_420_2754 ?_
    refine n_m (fun h => ?_) h
    refine w_a f_420_2755 ?_
    refine w_a f_420_2756 ?_
    refine w_a f_420_2758 ?_
    refine w_a f_420_2760 ?_
    refine w_a f_420_2761 ?_
    refine n_m (fun h => ?_) h
    refine w_a f_420_2762 ?_
    refine i_m (fun h => ?_) (fun h => ?_) h
    · refine w_a f_420_2769 ?_
      refine w_a f_420_2770 ?_
      refine w_a f_420_2771 ?_
      refine w_a f_420_2773 ?_
      refine w_a f_420_2775 ?_
      refine w_a f_420_2776 ?_
      refine n_m (fun h => ?_) h
      refine w_a f_420_2777 ?_
      refine i_m (fun h => ?_) (fun h => ?_) h
      · refine w_a f_420_2784 ?_
        exact w_c (ks := [0, 1, 2, 3, 4, 5]) f_420_2785 rfl rfl h
      · refine w_a f_420_2780 ?_
        refine w_a f_420_2781 ?_
        exact w_c (ks := [0, 1, 2, 3, 4, 5]) f_420_2785 rfl rfl h
    · refine w_a f_420_2765 ?_
      refine w_a f_420_2766 ?_
      refine w_a f_420_2770 ?_
      refine w_a f_420_2771 ?_
      refine w_a f_420_2773 ?_
      refine w_a f_420_2775 ?_
      refine w_a f_420_2776 ?_
      refine n_m (fun h => ?_) h
      refine w_a f_420_2777 ?_
      refine i_m (fun h => ?_) (fun h => ?_) h
      · refine w_a f_420_2784 ?_
        exact w_c (ks := [0, 1, 2, 3, 4, 5]) f_420_2785 rfl rfl h
      · refine w_a f_420_2780 ?_
        refine w_a f_420_2781 ?_
        exact w_c (ks := [0, 1, 2, 3, 4, 5]) f_420_2785 rfl rfl h
  · refine w_a f_420_2732 ?_
    refine w_a f_420_2733 ?_
    refine w_a f_420_2737 ?_
    refine w_a f_420_2738 ?_
    refine w_a f_420_2740 ?_
    refine w_a f_420_2741 ?_
    refine w_a f_420_2742 ?_
    refine n_m (fun h => ?_) h
    refine w_a f_420_2743 ?_
    refine w_a f_420_2744 ?_
    refine w_a f_420_2746 ?_
    refine w_a f_420_2747 ?_
    refine w_a f_420_2748 ?_
    refine n_m (fun h => ?_) h
    refine w_a f_420_2749 ?_
    refine w_a f_420_2750 ?_
    refine w_a f_420_2752 ?_
    refine w_a f_420_2753 ?_
    refine w_a f_420_2754 ?_
    refine n_m (fun h => ?_) h
    refine w_a f_420_2755 ?_
    refine w_a f_420_2756 ?_
    refine w_a f_420_2758 ?_
    refine w_a f_420_2760 ?_
    refine w_a f_420_2761 ?_
    refine n_m (fun h => ?_) h
    refine w_a f_420_2762 ?_
    refine i_m (fun h => ?_) (fun h => ?_) h
    · refine w_a f_420_2769 ?_
      refine w_a f_420_2770 ?_
      refine w_a f_420_2771 ?_
      refine w_a f_420_2773 ?_
      refine w_a f_420_2775 ?_
      refine w_a f_420_2776 ?_
      refine n_m (fun h => ?_) h
      refine w_a f_420_2777 ?_
      refine i_m (fun h => ?_) (fun h => ?_) h
      · refine w_a f_420_2784 ?_
        exact w_c (ks := [0, 1, 2, 3, 4, 5]) f_420_2785 rfl rfl h
      · refine w_a f_420_2780 ?_
        refine w_a f_420_2781 ?_
        exact w_c (ks := [0, 1, 2, 3, 4, 5]) f_420_2785 rfl rfl h
    · refine w_a f_420_2765 ?_
      refine w_a f_420_2766 ?_
      refine w_a f_420_2770 ?_
      refine w_a f_420_2771 ?_
      refine w_a f_420_2773 ?_
      refine w_a f_420_2775 ?_
      refine w_a f_420_2776 ?_
      refine n_m (fun h => ?_) h
      refine w_a f_420_2777 ?_
      refine i_m (fun h => ?_) (fun h => ?_) h
      · refine w_a f_420_2784 ?_
        exact w_c (ks := [0, 1, 2, 3, 4, 5]) f_420_2785 rfl rfl h
      · refine w_a f_420_2780 ?_
        refine w_a f_420_2781 ?_
        exact w_c (ks := [0, 1, 2, 3, 4, 5]) f_420_2785 rfl rfl h
set_option maxRecDepth 10000 in
set_option maxHeartbeats 4000000 in
theorem s_420_2788 {Lx : Nat} {I : Mi} {L : Ml} {e : Nat} {Q : Kq} {x4 : Int32} {x5 : Int32} {rl : Int64} (h :
    (if (I 58 0) = x5 then
     (if x5 = 0 then
      (if (L 70 0) = rl then
       Wp 420 4917 [(0, .ref 0), (1, .ref 1), (2, .ref 58), (3, .ref 70), (4, .int x4)] [] (gE Lx) I L e Q
      else
       Q (.inl (some (.int (Int32.ofInt 0)))) (gE Lx) I L e)
     else
      Wp 420 4917 [(0, .ref 0), (1, .ref 1), (2, .ref 58), (3, .ref 70), (4, .int x4)] [] (gE Lx) I L e Q)
    else
     Q (.inl (some (.int (Int32.ofInt 0)))) (gE Lx) I L e)) :
    Wp 420 2788 [(0, .ref 0), (1, .ref 1), (2, .ref 58), (3, .ref 70), (4, .int x4), (5, .int x5)] [.long rl] (gE Lx) I L e Q := by
  refine w_a f_420_2788 ?_
  refine w_a (ls := [(6, .long rl), (0, .ref 0), (1, .ref 1), (2, .ref 58), (3, .ref 70), (4, .int x4), (5, .int x5)]) f_420_2790 ?_
  refine w_a f_420_2791 ?_
  refine w_a (ls := [(0, .ref 58)]) f_212_0 ?_
  refine w_a f_212_1 ?_
  refine w_a f_212_4 ?_
  refine w_a (ls := [(6, .long rl), (0, .ref 0), (1, .ref 1), (2, .ref 58), (3, .ref 70), (4, .int x4), (5, .int x5)]) f_420_2794 ?_
  refine w_a f_420_2796 ?_
  refine i_m (fun h => ?_) (fun h => ?_) h
  · refine w_a f_420_2801 ?_
    refine w_a f_420_2803 ?_
    refine i_m (fun h => ?_) (fun h => ?_) h
    · refine w_a f_420_2806 ?_
      refine w_a f_420_2807 ?_
      refine w_a f_420_2808 ?_
      refine w_a f_420_2809 ?_
      refine w_a f_420_2811 ?_
      refine i_m (fun h => ?_) (fun h => ?_) h
      · refine w_a f_420_2817 ?_
        exact w_n (ks := [0, 1, 2, 3, 4]) rfl h
      · refine w_a f_420_2815 ?_
        refine w_a f_420_2816 ?_
        exact h
    · refine w_a f_420_2817 ?_
      exact w_n (ks := [0, 1, 2, 3, 4]) rfl h
  · refine w_a f_420_2799 ?_
    refine w_a f_420_2800 ?_
    exact h
set_option maxRecDepth 10000 in
set_option maxHeartbeats 4000000 in
theorem s_420_2820 {Lx : Nat} {I : Mi} {L : Ml} {e : Nat} {Q : Kq} {x4 : Int32} (h :
    (inb (x4 + (Int32.ofInt 1)) Lx (
     (inb (x4 + (Int32.ofInt 2)) Lx (
      (if (I 0 ((x4 + (Int32.ofInt 2)).toNatClampNeg)) = 0 then
       (inb (x4 + (Int32.ofInt 3)) Lx (
        (inb (x4 + (Int32.ofInt 4)) Lx (
         (inb (x4 + (Int32.ofInt 5)) Lx (
          (if (I 0 ((x4 + (Int32.ofInt 5)).toNatClampNeg)) = 0 then
           Wp 394 0 [(0, .ref 1), (1, .int (I 0 ((x4 + (Int32.ofInt 1)).toNatClampNeg))), (2, .int (Int32.ofInt 0)), (3, .int (I 0 ((x4 + (Int32.ofInt 3)).toNatClampNeg))), (4, .int (I 0 ((x4 + (Int32.ofInt 4)).toNatClampNeg))), (5, .int (Int32.ofInt 0)), (6, .ref 70)] [] (gE Lx) I L e (kcp (Wp 420) 420 2868 0 [(0, .ref 0), (1, .ref 1), (2, .ref 58), (3, .ref 70), (4, .int x4)] 71 [] Q)
          else
           Wp 394 0 [(0, .ref 1), (1, .int (I 0 ((x4 + (Int32.ofInt 1)).toNatClampNeg))), (2, .int (Int32.ofInt 0)), (3, .int (I 0 ((x4 + (Int32.ofInt 3)).toNatClampNeg))), (4, .int (I 0 ((x4 + (Int32.ofInt 4)).toNatClampNeg))), (5, .int (Int32.ofInt 1)), (6, .ref 70)] [] (gE Lx) I L e (kcp (Wp 420) 420 2868 0 [(0, .ref 0), (1, .ref 1), (2, .ref 58), (3, .ref 70), (4, .int x4)] 71 [] Q)))
         False))
        False))
       False)
      else
       (inb (x4 + (Int32.ofInt 3)) Lx (
        (inb (x4 + (Int32.ofInt 4)) Lx (
         (inb (x4 + (Int32.ofInt 5)) Lx (
          (if (I 0 ((x4 + (Int32.ofInt 5)).toNatClampNeg)) = 0 then
           Wp 394 0 [(0, .ref 1), (1, .int (I 0 ((x4 + (Int32.ofInt 1)).toNatClampNeg))), (2, .int (Int32.ofInt 1)), (3, .int (I 0 ((x4 + (Int32.ofInt 3)).toNatClampNeg))), (4, .int (I 0 ((x4 + (Int32.ofInt 4)).toNatClampNeg))), (5, .int (Int32.ofInt 0)), (6, .ref 70)] [] (gE Lx) I L e (kcp (Wp 420) 420 2868 0 [(0, .ref 0), (1, .ref 1), (2, .ref 58), (3, .ref 70), (4, .int x4)] 71 [] Q)
          else
           Wp 394 0 [(0, .ref 1), (1, .int (I 0 ((x4 + (Int32.ofInt 1)).toNatClampNeg))), (2, .int (Int32.ofInt 1)), (3, .int (I 0 ((x4 + (Int32.ofInt 3)).toNatClampNeg))), (4, .int (I 0 ((x4 + (Int32.ofInt 4)).toNatClampNeg))), (5, .int (Int32.ofInt 1)), (6, .ref 70)] [] (gE Lx) I L e (kcp (Wp 420) 420 2868 0 [(0, .ref 0), (1, .ref 1), (2, .ref 58), (3, .ref 70), (4, .int x4)] 71 [] Q)))
         False))
        False))
       False)))
     False))
    False)) :
    Wp 420 2820 [(0, .ref 0), (1, .ref 1), (2, .ref 58), (3, .ref 70), (4, .int x4)] [] (gE Lx) I L e Q := by
  refine w_a f_420_2820 ?_
  refine w_a f_420_2821 ?_
  refine w_a f_420_2822 ?_
  refine w_a f_420_2824 ?_
  refine w_a f_420_2825 ?_
  refine w_a f_420_2826 ?_
  refine n_m (fun h => ?_) h
  refine w_a f_420_2827 ?_
  refine w_a f_420_2828 ?_
  refine w_a f_420_2830 ?_
  refine w_a f_420_2831 ?_
  refine w_a f_420_2832 ?_
  refine n_m (fun h => ?_) h
  refine w_a f_420_2833 ?_
  refine i_m (fun h => ?_) (fun h => ?_) h
  · refine w_a f_420_2840 ?_
    refine w_a f_420_2841 ?_
    refine w_a f_420_2842 ?_
    refine w_a f_420_2844 ?_
    refine w_a f_420_2845 ?_
    refine w_a f_420_2846 ?_
    refine n_m (fun h => ?_) h
    refine w_a f_420_2847 ?_
    refine w_a f_420_2848 ?_
    refine w_a f_420_2850 ?_
    refine w_a f_420_2851 ?_
    refine w_a f_420_2852 ?_
    refine n_m (fun h => ?_) h
    refine w_a f_420_2853 ?_
    refine w_a f_420_2854 ?_
    refine w_a f_420_2856 ?_
    refine w_a f_420_2857 ?_
    refine w_a f_420_2858 ?_
    refine n_m (fun h => ?_) h
    refine w_a f_420_2859 ?_
    refine i_m (fun h => ?_) (fun h => ?_) h
    · refine w_a f_420_2866 ?_
      refine w_a f_420_2867 ?_
      exact w_c (ks := [0, 1, 2, 3, 4]) f_420_2868 rfl rfl h
    · refine w_a f_420_2862 ?_
      refine w_a f_420_2863 ?_
      refine w_a f_420_2867 ?_
      exact w_c (ks := [0, 1, 2, 3, 4]) f_420_2868 rfl rfl h
  · refine w_a f_420_2836 ?_
    refine w_a f_420_2837 ?_
    refine w_a f_420_2841 ?_
    refine w_a f_420_2842 ?_
    refine w_a f_420_2844 ?_
    refine w_a f_420_2845 ?_
    refine w_a f_420_2846 ?_
    refine n_m (fun h => ?_) h
    refine w_a f_420_2847 ?_
    refine w_a f_420_2848 ?_
    refine w_a f_420_2850 ?_
    refine w_a f_420_2851 ?_
    refine w_a f_420_2852 ?_
    refine n_m (fun h => ?_) h
    refine w_a f_420_2853 ?_
    refine w_a f_420_2854 ?_
    refine w_a f_420_2856 ?_
    refine w_a f_420_2857 ?_
    refine w_a f_420_2858 ?_
    refine n_m (fun h => ?_) h
    refine w_a f_420_2859 ?_
    refine i_m (fun h => ?_) (fun h => ?_) h
    · refine w_a f_420_2866 ?_
      refine w_a f_420_2867 ?_
      exact w_c (ks := [0, 1, 2, 3, 4]) f_420_2868 rfl rfl h
    · refine w_a f_420_2862 ?_
      refine w_a f_420_2863 ?_
      refine w_a f_420_2867 ?_
      exact w_c (ks := [0, 1, 2, 3, 4]) f_420_2868 rfl rfl h
set_option maxRecDepth 10000 in
set_option maxHeartbeats 4000000 in
theorem s_420_2871 {Lx : Nat} {I : Mi} {L : Ml} {e : Nat} {Q : Kq} {x4 : Int32} {r : Int32} (h :
    (inb (x4 + (Int32.ofInt 1)) Lx (
     (inb (x4 + (Int32.ofInt 2)) Lx (
      (if (I 0 ((x4 + (Int32.ofInt 2)).toNatClampNeg)) = 0 then
       (inb (x4 + (Int32.ofInt 3)) Lx (
        (inb (x4 + (Int32.ofInt 4)) Lx (
         (inb (x4 + (Int32.ofInt 5)) Lx (
          (if (I 0 ((x4 + (Int32.ofInt 5)).toNatClampNeg)) = 0 then
           Wp 292 0 [(0, .ref 58), (1, .int (I 0 ((x4 + (Int32.ofInt 1)).toNatClampNeg))), (2, .int (Int32.ofInt 0)), (3, .int (I 0 ((x4 + (Int32.ofInt 3)).toNatClampNeg))), (4, .int (I 0 ((x4 + (Int32.ofInt 4)).toNatClampNeg))), (5, .int (Int32.ofInt 0))] [] (gE Lx) I L e (kcp (Wp 420) 420 2920 0 [(0, .ref 0), (1, .ref 1), (2, .ref 58), (3, .ref 70), (4, .int x4), (5, .int r)] 71 [] Q)
          else
           Wp 292 0 [(0, .ref 58), (1, .int (I 0 ((x4 + (Int32.ofInt 1)).toNatClampNeg))), (2, .int (Int32.ofInt 0)), (3, .int (I 0 ((x4 + (Int32.ofInt 3)).toNatClampNeg))), (4, .int (I 0 ((x4 + (Int32.ofInt 4)).toNatClampNeg))), (5, .int (Int32.ofInt 1))] [] (gE Lx) I L e (kcp (Wp 420) 420 2920 0 [(0, .ref 0), (1, .ref 1), (2, .ref 58), (3, .ref 70), (4, .int x4), (5, .int r)] 71 [] Q)))
         False))
        False))
       False)
      else
       (inb (x4 + (Int32.ofInt 3)) Lx (
        (inb (x4 + (Int32.ofInt 4)) Lx (
         (inb (x4 + (Int32.ofInt 5)) Lx (
          (if (I 0 ((x4 + (Int32.ofInt 5)).toNatClampNeg)) = 0 then
           Wp 292 0 [(0, .ref 58), (1, .int (I 0 ((x4 + (Int32.ofInt 1)).toNatClampNeg))), (2, .int (Int32.ofInt 1)), (3, .int (I 0 ((x4 + (Int32.ofInt 3)).toNatClampNeg))), (4, .int (I 0 ((x4 + (Int32.ofInt 4)).toNatClampNeg))), (5, .int (Int32.ofInt 0))] [] (gE Lx) I L e (kcp (Wp 420) 420 2920 0 [(0, .ref 0), (1, .ref 1), (2, .ref 58), (3, .ref 70), (4, .int x4), (5, .int r)] 71 [] Q)
          else
           Wp 292 0 [(0, .ref 58), (1, .int (I 0 ((x4 + (Int32.ofInt 1)).toNatClampNeg))), (2, .int (Int32.ofInt 1)), (3, .int (I 0 ((x4 + (Int32.ofInt 3)).toNatClampNeg))), (4, .int (I 0 ((x4 + (Int32.ofInt 4)).toNatClampNeg))), (5, .int (Int32.ofInt 1))] [] (gE Lx) I L e (kcp (Wp 420) 420 2920 0 [(0, .ref 0), (1, .ref 1), (2, .ref 58), (3, .ref 70), (4, .int x4), (5, .int r)] 71 [] Q)))
         False))
        False))
       False)))
     False))
    False)) :
    Wp 420 2871 [(0, .ref 0), (1, .ref 1), (2, .ref 58), (3, .ref 70), (4, .int x4)] [.int r] (gE Lx) I L e Q := by
  refine w_a f_420_2871 ?_
  refine w_a (ls := [(5, .int r), (0, .ref 0), (1, .ref 1), (2, .ref 58), (3, .ref 70), (4, .int x4)]) f_420_2873 ?_
  refine w_a f_420_2874 ?_
  refine w_a f_420_2875 ?_
  refine w_a f_420_2877 ?_
  refine w_a f_420_2878 ?_
  refine w_a f_420_2879 ?_
  refine n_m (fun h => ?_) h
  refine w_a f_420_2880 ?_
  refine w_a f_420_2881 ?_
  refine w_a f_420_2883 ?_
  refine w_a f_420_2884 ?_
  refine w_a f_420_2885 ?_
  refine n_m (fun h => ?_) h
  refine w_a f_420_2886 ?_
  refine i_m (fun h => ?_) (fun h => ?_) h
  · refine w_a f_420_2893 ?_
    refine w_a f_420_2894 ?_
    refine w_a f_420_2895 ?_
    refine w_a f_420_2897 ?_
    refine w_a f_420_2898 ?_
    refine w_a f_420_2899 ?_
    refine n_m (fun h => ?_) h
    refine w_a f_420_2900 ?_
    refine w_a f_420_2901 ?_
    refine w_a f_420_2903 ?_
    refine w_a f_420_2904 ?_
    refine w_a f_420_2905 ?_
    refine n_m (fun h => ?_) h
    refine w_a f_420_2906 ?_
    refine w_a f_420_2907 ?_
    refine w_a f_420_2909 ?_
    refine w_a f_420_2910 ?_
    refine w_a f_420_2911 ?_
    refine n_m (fun h => ?_) h
    refine w_a f_420_2912 ?_
    refine i_m (fun h => ?_) (fun h => ?_) h
    · refine w_a f_420_2919 ?_
      exact w_c (ks := [0, 1, 2, 3, 4, 5]) f_420_2920 rfl rfl h
    · refine w_a f_420_2915 ?_
      refine w_a f_420_2916 ?_
      exact w_c (ks := [0, 1, 2, 3, 4, 5]) f_420_2920 rfl rfl h
  · refine w_a f_420_2889 ?_
    refine w_a f_420_2890 ?_
    refine w_a f_420_2894 ?_
    refine w_a f_420_2895 ?_
    refine w_a f_420_2897 ?_
    refine w_a f_420_2898 ?_
    refine w_a f_420_2899 ?_
    refine n_m (fun h => ?_) h
    refine w_a f_420_2900 ?_
    refine w_a f_420_2901 ?_
    refine w_a f_420_2903 ?_
    refine w_a f_420_2904 ?_
    refine w_a f_420_2905 ?_
    refine n_m (fun h => ?_) h
    refine w_a f_420_2906 ?_
    refine w_a f_420_2907 ?_
    refine w_a f_420_2909 ?_
    refine w_a f_420_2910 ?_
    refine w_a f_420_2911 ?_
    refine n_m (fun h => ?_) h
    refine w_a f_420_2912 ?_
    refine i_m (fun h => ?_) (fun h => ?_) h
    · refine w_a f_420_2919 ?_
      exact w_c (ks := [0, 1, 2, 3, 4, 5]) f_420_2920 rfl rfl h
    · refine w_a f_420_2915 ?_
      refine w_a f_420_2916 ?_
      exact w_c (ks := [0, 1, 2, 3, 4, 5]) f_420_2920 rfl rfl h
set_option maxRecDepth 10000 in
set_option maxHeartbeats 4000000 in
theorem s_420_2923 {Lx : Nat} {I : Mi} {L : Ml} {e : Nat} {Q : Kq} {x4 : Int32} {x5 : Int32} {r : Int32} (h :
    (if (I 58 0) = x5 then
     (if x5 = 0 then
      (if (L 70 0) = r.toInt64 then
       Wp 420 4917 [(0, .ref 0), (1, .ref 1), (2, .ref 58), (3, .ref 70), (4, .int x4)] [] (gE Lx) I L e Q
      else
       Q (.inl (some (.int (Int32.ofInt 0)))) (gE Lx) I L e)
     else
      Wp 420 4917 [(0, .ref 0), (1, .ref 1), (2, .ref 58), (3, .ref 70), (4, .int x4)] [] (gE Lx) I L e Q)
    else
     Q (.inl (some (.int (Int32.ofInt 0)))) (gE Lx) I L e)) :
    Wp 420 2923 [(0, .ref 0), (1, .ref 1), (2, .ref 58), (3, .ref 70), (4, .int x4), (5, .int x5)] [.int r] (gE Lx) I L e Q := by
  refine w_a f_420_2923 ?_
  refine w_a (ls := [(6, .int r), (0, .ref 0), (1, .ref 1), (2, .ref 58), (3, .ref 70), (4, .int x4), (5, .int x5)]) f_420_2925 ?_
  refine w_a f_420_2926 ?_
  refine w_a (ls := [(0, .ref 58)]) f_212_0 ?_
  refine w_a f_212_1 ?_
  refine w_a f_212_4 ?_
  refine w_a (ls := [(6, .int r), (0, .ref 0), (1, .ref 1), (2, .ref 58), (3, .ref 70), (4, .int x4), (5, .int x5)]) f_420_2929 ?_
  refine w_a f_420_2931 ?_
  refine i_m (fun h => ?_) (fun h => ?_) h
  · refine w_a f_420_2936 ?_
    refine w_a f_420_2938 ?_
    refine i_m (fun h => ?_) (fun h => ?_) h
    · refine w_a f_420_2941 ?_
      refine w_a f_420_2942 ?_
      refine w_a f_420_2943 ?_
      refine w_a f_420_2944 ?_
      refine w_a f_420_2946 ?_
      refine w_a f_420_2947 ?_
      refine i_m (fun h => ?_) (fun h => ?_) h
      · refine w_a f_420_2953 ?_
        exact w_n (ks := [0, 1, 2, 3, 4]) rfl h
      · refine w_a f_420_2951 ?_
        refine w_a f_420_2952 ?_
        exact h
    · refine w_a f_420_2953 ?_
      exact w_n (ks := [0, 1, 2, 3, 4]) rfl h
  · refine w_a f_420_2934 ?_
    refine w_a f_420_2935 ?_
    exact h
set_option maxRecDepth 10000 in
set_option maxHeartbeats 4000000 in
theorem s_420_2956 {Lx : Nat} {I : Mi} {L : Ml} {e : Nat} {Q : Kq} {x4 : Int32} (h :
    (inb (x4 + (Int32.ofInt 1)) Lx (
     (inb (x4 + (Int32.ofInt 2)) Lx (
      (if (I 0 ((x4 + (Int32.ofInt 2)).toNatClampNeg)) = 0 then
       (inb (x4 + (Int32.ofInt 3)) Lx (
        (inb (x4 + (Int32.ofInt 4)) Lx (
         (inb (x4 + (Int32.ofInt 5)) Lx (
          Wp 395 0 [(0, .ref 1), (1, .int (I 0 ((x4 + (Int32.ofInt 1)).toNatClampNeg))), (2, .int (Int32.ofInt 0)), (3, .int (I 0 ((x4 + (Int32.ofInt 3)).toNatClampNeg))), (4, .int (I 0 ((x4 + (Int32.ofInt 4)).toNatClampNeg))), (5, .int (I 0 ((x4 + (Int32.ofInt 5)).toNatClampNeg))), (6, .ref 70)] [] (gE Lx) I L e (kcp (Wp 420) 420 2996 0 [(0, .ref 0), (1, .ref 1), (2, .ref 58), (3, .ref 70), (4, .int x4)] 71 [] Q))
         False))
        False))
       False)
      else
       (inb (x4 + (Int32.ofInt 3)) Lx (
        (inb (x4 + (Int32.ofInt 4)) Lx (
         (inb (x4 + (Int32.ofInt 5)) Lx (
          Wp 395 0 [(0, .ref 1), (1, .int (I 0 ((x4 + (Int32.ofInt 1)).toNatClampNeg))), (2, .int (Int32.ofInt 1)), (3, .int (I 0 ((x4 + (Int32.ofInt 3)).toNatClampNeg))), (4, .int (I 0 ((x4 + (Int32.ofInt 4)).toNatClampNeg))), (5, .int (I 0 ((x4 + (Int32.ofInt 5)).toNatClampNeg))), (6, .ref 70)] [] (gE Lx) I L e (kcp (Wp 420) 420 2996 0 [(0, .ref 0), (1, .ref 1), (2, .ref 58), (3, .ref 70), (4, .int x4)] 71 [] Q))
         False))
        False))
       False)))
     False))
    False)) :
    Wp 420 2956 [(0, .ref 0), (1, .ref 1), (2, .ref 58), (3, .ref 70), (4, .int x4)] [] (gE Lx) I L e Q := by
  refine w_a f_420_2956 ?_
  refine w_a f_420_2957 ?_
  refine w_a f_420_2958 ?_
  refine w_a f_420_2960 ?_
  refine w_a f_420_2961 ?_
  refine w_a f_420_2962 ?_
  refine n_m (fun h => ?_) h
  refine w_a f_420_2963 ?_
  refine w_a f_420_2964 ?_
  refine w_a f_420_2966 ?_
  refine w_a f_420_2967 ?_
  refine w_a f_420_2968 ?_
  refine n_m (fun h => ?_) h
  refine w_a f_420_2969 ?_
  refine i_m (fun h => ?_) (fun h => ?_) h
  · refine w_a f_420_2976 ?_
    refine w_a f_420_2977 ?_
    refine w_a f_420_2978 ?_
    refine w_a f_420_2980 ?_
    refine w_a f_420_2981 ?_
    refine w_a f_420_2982 ?_
    refine n_m (fun h => ?_) h
    refine w_a f_420_2983 ?_
    refine w_a f_420_2984 ?_
    refine w_a f_420_2986 ?_
    refine w_a f_420_2987 ?_
    refine w_a f_420_2988 ?_
    refine n_m (fun h => ?_) h
    refine w_a f_420_2989 ?_
    refine w_a f_420_2990 ?_
    refine w_a f_420_2992 ?_
    refine w_a f_420_2993 ?_
    refine w_a f_420_2994 ?_
    refine n_m (fun h => ?_) h
    refine w_a f_420_2995 ?_
    exact w_c (ks := [0, 1, 2, 3, 4]) f_420_2996 rfl rfl h
  · refine w_a f_420_2972 ?_
    refine w_a f_420_2973 ?_
    refine w_a f_420_2977 ?_
    refine w_a f_420_2978 ?_
    refine w_a f_420_2980 ?_
    refine w_a f_420_2981 ?_
    refine w_a f_420_2982 ?_
    refine n_m (fun h => ?_) h
    refine w_a f_420_2983 ?_
    refine w_a f_420_2984 ?_
    refine w_a f_420_2986 ?_
    refine w_a f_420_2987 ?_
    refine w_a f_420_2988 ?_
    refine n_m (fun h => ?_) h
    refine w_a f_420_2989 ?_
    refine w_a f_420_2990 ?_
    refine w_a f_420_2992 ?_
    refine w_a f_420_2993 ?_
    refine w_a f_420_2994 ?_
    refine n_m (fun h => ?_) h
    refine w_a f_420_2995 ?_
    exact w_c (ks := [0, 1, 2, 3, 4]) f_420_2996 rfl rfl h
set_option maxRecDepth 10000 in
set_option maxHeartbeats 4000000 in
theorem s_420_2999 {Lx : Nat} {I : Mi} {L : Ml} {e : Nat} {Q : Kq} {x4 : Int32} {r : Int32} (h :
    (inb (x4 + (Int32.ofInt 1)) Lx (
     (inb (x4 + (Int32.ofInt 2)) Lx (
      (if (I 0 ((x4 + (Int32.ofInt 2)).toNatClampNeg)) = 0 then
       (inb (x4 + (Int32.ofInt 3)) Lx (
        (inb (x4 + (Int32.ofInt 4)) Lx (
         (inb (x4 + (Int32.ofInt 5)) Lx (
          Wp 295 0 [(0, .ref 58), (1, .int (I 0 ((x4 + (Int32.ofInt 1)).toNatClampNeg))), (2, .int (Int32.ofInt 0)), (3, .int (I 0 ((x4 + (Int32.ofInt 3)).toNatClampNeg))), (4, .int (I 0 ((x4 + (Int32.ofInt 4)).toNatClampNeg))), (5, .int (I 0 ((x4 + (Int32.ofInt 5)).toNatClampNeg)))] [] (gE Lx) I L e (kcp (Wp 420) 420 3040 0 [(0, .ref 0), (1, .ref 1), (2, .ref 58), (3, .ref 70), (4, .int x4), (5, .int r)] 71 [] Q))
         False))
        False))
       False)
      else
       (inb (x4 + (Int32.ofInt 3)) Lx (
        (inb (x4 + (Int32.ofInt 4)) Lx (
         (inb (x4 + (Int32.ofInt 5)) Lx (
          Wp 295 0 [(0, .ref 58), (1, .int (I 0 ((x4 + (Int32.ofInt 1)).toNatClampNeg))), (2, .int (Int32.ofInt 1)), (3, .int (I 0 ((x4 + (Int32.ofInt 3)).toNatClampNeg))), (4, .int (I 0 ((x4 + (Int32.ofInt 4)).toNatClampNeg))), (5, .int (I 0 ((x4 + (Int32.ofInt 5)).toNatClampNeg)))] [] (gE Lx) I L e (kcp (Wp 420) 420 3040 0 [(0, .ref 0), (1, .ref 1), (2, .ref 58), (3, .ref 70), (4, .int x4), (5, .int r)] 71 [] Q))
         False))
        False))
       False)))
     False))
    False)) :
    Wp 420 2999 [(0, .ref 0), (1, .ref 1), (2, .ref 58), (3, .ref 70), (4, .int x4)] [.int r] (gE Lx) I L e Q := by
  refine w_a f_420_2999 ?_
  refine w_a (ls := [(5, .int r), (0, .ref 0), (1, .ref 1), (2, .ref 58), (3, .ref 70), (4, .int x4)]) f_420_3001 ?_
  refine w_a f_420_3002 ?_
  refine w_a f_420_3003 ?_
  refine w_a f_420_3005 ?_
  refine w_a f_420_3006 ?_
  refine w_a f_420_3007 ?_
  refine n_m (fun h => ?_) h
  refine w_a f_420_3008 ?_
  refine w_a f_420_3009 ?_
  refine w_a f_420_3011 ?_
  refine w_a f_420_3012 ?_
  refine w_a f_420_3013 ?_
  refine n_m (fun h => ?_) h
  refine w_a f_420_3014 ?_
  refine i_m (fun h => ?_) (fun h => ?_) h
  · refine w_a f_420_3021 ?_
    refine w_a f_420_3022 ?_
    refine w_a f_420_3023 ?_
    refine w_a f_420_3025 ?_
    refine w_a f_420_3026 ?_
    refine w_a f_420_3027 ?_
    refine n_m (fun h => ?_) h
    refine w_a f_420_3028 ?_
    refine w_a f_420_3029 ?_
    refine w_a f_420_3031 ?_
    refine w_a f_420_3032 ?_
    refine w_a f_420_3033 ?_
    refine n_m (fun h => ?_) h
    refine w_a f_420_3034 ?_
    refine w_a f_420_3035 ?_
    refine w_a f_420_3037 ?_
    refine w_a f_420_3038 ?_
    refine w_a f_420_3039 ?_
    refine n_m (fun h => ?_) h
    exact w_c (ks := [0, 1, 2, 3, 4, 5]) f_420_3040 rfl rfl h
  · refine w_a f_420_3017 ?_
    refine w_a f_420_3018 ?_
    refine w_a f_420_3022 ?_
    refine w_a f_420_3023 ?_
    refine w_a f_420_3025 ?_
    refine w_a f_420_3026 ?_
    refine w_a f_420_3027 ?_
    refine n_m (fun h => ?_) h
    refine w_a f_420_3028 ?_
    refine w_a f_420_3029 ?_
    refine w_a f_420_3031 ?_
    refine w_a f_420_3032 ?_
    refine w_a f_420_3033 ?_
    refine n_m (fun h => ?_) h
    refine w_a f_420_3034 ?_
    refine w_a f_420_3035 ?_
    refine w_a f_420_3037 ?_
    refine w_a f_420_3038 ?_
    refine w_a f_420_3039 ?_
    refine n_m (fun h => ?_) h
    exact w_c (ks := [0, 1, 2, 3, 4, 5]) f_420_3040 rfl rfl h
set_option maxRecDepth 10000 in
set_option maxHeartbeats 4000000 in
theorem s_420_3043 {Lx : Nat} {I : Mi} {L : Ml} {e : Nat} {Q : Kq} {x4 : Int32} {x5 : Int32} {r : Int32} (h :
    (if (I 58 0) = x5 then
     (if x5 = 0 then
      (if (L 70 0) = r.toInt64 then
       Wp 420 4917 [(0, .ref 0), (1, .ref 1), (2, .ref 58), (3, .ref 70), (4, .int x4)] [] (gE Lx) I L e Q
      else
       Q (.inl (some (.int (Int32.ofInt 0)))) (gE Lx) I L e)
     else
      Wp 420 4917 [(0, .ref 0), (1, .ref 1), (2, .ref 58), (3, .ref 70), (4, .int x4)] [] (gE Lx) I L e Q)
    else
     Q (.inl (some (.int (Int32.ofInt 0)))) (gE Lx) I L e)) :
    Wp 420 3043 [(0, .ref 0), (1, .ref 1), (2, .ref 58), (3, .ref 70), (4, .int x4), (5, .int x5)] [.int r] (gE Lx) I L e Q := by
  refine w_a f_420_3043 ?_
  refine w_a (ls := [(6, .int r), (0, .ref 0), (1, .ref 1), (2, .ref 58), (3, .ref 70), (4, .int x4), (5, .int x5)]) f_420_3045 ?_
  refine w_a f_420_3046 ?_
  refine w_a (ls := [(0, .ref 58)]) f_212_0 ?_
  refine w_a f_212_1 ?_
  refine w_a f_212_4 ?_
  refine w_a (ls := [(6, .int r), (0, .ref 0), (1, .ref 1), (2, .ref 58), (3, .ref 70), (4, .int x4), (5, .int x5)]) f_420_3049 ?_
  refine w_a f_420_3051 ?_
  refine i_m (fun h => ?_) (fun h => ?_) h
  · refine w_a f_420_3056 ?_
    refine w_a f_420_3058 ?_
    refine i_m (fun h => ?_) (fun h => ?_) h
    · refine w_a f_420_3061 ?_
      refine w_a f_420_3062 ?_
      refine w_a f_420_3063 ?_
      refine w_a f_420_3064 ?_
      refine w_a f_420_3066 ?_
      refine w_a f_420_3067 ?_
      refine i_m (fun h => ?_) (fun h => ?_) h
      · refine w_a f_420_3073 ?_
        exact w_n (ks := [0, 1, 2, 3, 4]) rfl h
      · refine w_a f_420_3071 ?_
        refine w_a f_420_3072 ?_
        exact h
    · refine w_a f_420_3073 ?_
      exact w_n (ks := [0, 1, 2, 3, 4]) rfl h
  · refine w_a f_420_3054 ?_
    refine w_a f_420_3055 ?_
    exact h
set_option maxRecDepth 10000 in
set_option maxHeartbeats 4000000 in
theorem s_420_3076 {Lx : Nat} {I : Mi} {L : Ml} {e : Nat} {Q : Kq} {x4 : Int32} (h :
    (inb (x4 + (Int32.ofInt 1)) Lx (
     (inb (x4 + (Int32.ofInt 2)) Lx (
      (if (I 0 ((x4 + (Int32.ofInt 2)).toNatClampNeg)) = 0 then
       Wp 396 0 [(0, .ref 1), (1, .int (I 0 ((x4 + (Int32.ofInt 1)).toNatClampNeg))), (2, .int (Int32.ofInt 0)), (3, .ref 70)] [] (gE Lx) I L e (kcp (Wp 420) 420 3098 0 [(0, .ref 0), (1, .ref 1), (2, .ref 58), (3, .ref 70), (4, .int x4)] 71 [] Q)
      else
       Wp 396 0 [(0, .ref 1), (1, .int (I 0 ((x4 + (Int32.ofInt 1)).toNatClampNeg))), (2, .int (Int32.ofInt 1)), (3, .ref 70)] [] (gE Lx) I L e (kcp (Wp 420) 420 3098 0 [(0, .ref 0), (1, .ref 1), (2, .ref 58), (3, .ref 70), (4, .int x4)] 71 [] Q)))
     False))
    False)) :
    Wp 420 3076 [(0, .ref 0), (1, .ref 1), (2, .ref 58), (3, .ref 70), (4, .int x4)] [] (gE Lx) I L e Q := by
  refine w_a f_420_3076 ?_
  refine w_a f_420_3077 ?_
  refine w_a f_420_3078 ?_
  refine w_a f_420_3080 ?_
  refine w_a f_420_3081 ?_
  refine w_a f_420_3082 ?_
  refine n_m (fun h => ?_) h
  refine w_a f_420_3083 ?_
  refine w_a f_420_3084 ?_
  refine w_a f_420_3086 ?_
  refine w_a f_420_3087 ?_
  refine w_a f_420_3088 ?_
  refine n_m (fun h => ?_) h
  refine w_a f_420_3089 ?_
  refine i_m (fun h => ?_) (fun h => ?_) h
  · refine w_a f_420_3096 ?_
    refine w_a f_420_3097 ?_
    exact w_c (ks := [0, 1, 2, 3, 4]) f_420_3098 rfl rfl h
  · refine w_a f_420_3092 ?_
    refine w_a f_420_3093 ?_
    refine w_a f_420_3097 ?_
    exact w_c (ks := [0, 1, 2, 3, 4]) f_420_3098 rfl rfl h
set_option maxRecDepth 10000 in
set_option maxHeartbeats 4000000 in
theorem s_420_3101 {Lx : Nat} {I : Mi} {L : Ml} {e : Nat} {Q : Kq} {x4 : Int32} {r : Int32} (h :
    (inb (x4 + (Int32.ofInt 1)) Lx (
     (inb (x4 + (Int32.ofInt 2)) Lx (
      (if (I 0 ((x4 + (Int32.ofInt 2)).toNatClampNeg)) = 0 then
       Wp 297 0 [(0, .ref 58), (1, .int (I 0 ((x4 + (Int32.ofInt 1)).toNatClampNeg))), (2, .int (Int32.ofInt 0))] [] (gE Lx) I L e (kcp (Wp 420) 420 3124 0 [(0, .ref 0), (1, .ref 1), (2, .ref 58), (3, .ref 70), (4, .int x4), (5, .int r)] 71 [] Q)
      else
       Wp 297 0 [(0, .ref 58), (1, .int (I 0 ((x4 + (Int32.ofInt 1)).toNatClampNeg))), (2, .int (Int32.ofInt 1))] [] (gE Lx) I L e (kcp (Wp 420) 420 3124 0 [(0, .ref 0), (1, .ref 1), (2, .ref 58), (3, .ref 70), (4, .int x4), (5, .int r)] 71 [] Q)))
     False))
    False)) :
    Wp 420 3101 [(0, .ref 0), (1, .ref 1), (2, .ref 58), (3, .ref 70), (4, .int x4)] [.int r] (gE Lx) I L e Q := by
  refine w_a f_420_3101 ?_
  refine w_a (ls := [(5, .int r), (0, .ref 0), (1, .ref 1), (2, .ref 58), (3, .ref 70), (4, .int x4)]) f_420_3103 ?_
  refine w_a f_420_3104 ?_
  refine w_a f_420_3105 ?_
  refine w_a f_420_3107 ?_
  refine w_a f_420_3108 ?_
  refine w_a f_420_3109 ?_
  refine n_m (fun h => ?_) h
  refine w_a f_420_3110 ?_
  refine w_a f_420_3111 ?_
  refine w_a f_420_3113 ?_
  refine w_a f_420_3114 ?_
  refine w_a f_420_3115 ?_
  refine n_m (fun h => ?_) h
  refine w_a f_420_3116 ?_
  refine i_m (fun h => ?_) (fun h => ?_) h
  · refine w_a f_420_3123 ?_
    exact w_c (ks := [0, 1, 2, 3, 4, 5]) f_420_3124 rfl rfl h
  · refine w_a f_420_3119 ?_
    refine w_a f_420_3120 ?_
    exact w_c (ks := [0, 1, 2, 3, 4, 5]) f_420_3124 rfl rfl h
set_option maxRecDepth 10000 in
set_option maxHeartbeats 4000000 in
theorem s_420_3127 {Lx : Nat} {I : Mi} {L : Ml} {e : Nat} {Q : Kq} {x4 : Int32} {x5 : Int32} {r : Int32} (h :
    (if (I 58 0) = x5 then
     (if x5 = 0 then
      (if (L 70 0) = r.toInt64 then
       Wp 420 4917 [(0, .ref 0), (1, .ref 1), (2, .ref 58), (3, .ref 70), (4, .int x4)] [] (gE Lx) I L e Q
      else
       Q (.inl (some (.int (Int32.ofInt 0)))) (gE Lx) I L e)
     else
      Wp 420 4917 [(0, .ref 0), (1, .ref 1), (2, .ref 58), (3, .ref 70), (4, .int x4)] [] (gE Lx) I L e Q)
    else
     Q (.inl (some (.int (Int32.ofInt 0)))) (gE Lx) I L e)) :
    Wp 420 3127 [(0, .ref 0), (1, .ref 1), (2, .ref 58), (3, .ref 70), (4, .int x4), (5, .int x5)] [.int r] (gE Lx) I L e Q := by
  refine w_a f_420_3127 ?_
  refine w_a (ls := [(6, .int r), (0, .ref 0), (1, .ref 1), (2, .ref 58), (3, .ref 70), (4, .int x4), (5, .int x5)]) f_420_3129 ?_
  refine w_a f_420_3130 ?_
  refine w_a (ls := [(0, .ref 58)]) f_212_0 ?_
  refine w_a f_212_1 ?_
  refine w_a f_212_4 ?_
  refine w_a (ls := [(6, .int r), (0, .ref 0), (1, .ref 1), (2, .ref 58), (3, .ref 70), (4, .int x4), (5, .int x5)]) f_420_3133 ?_
  refine w_a f_420_3135 ?_
  refine i_m (fun h => ?_) (fun h => ?_) h
  · refine w_a f_420_3140 ?_
    refine w_a f_420_3142 ?_
    refine i_m (fun h => ?_) (fun h => ?_) h
    · refine w_a f_420_3145 ?_
      refine w_a f_420_3146 ?_
      refine w_a f_420_3147 ?_
      refine w_a f_420_3148 ?_
      refine w_a f_420_3150 ?_
      refine w_a f_420_3151 ?_
      refine i_m (fun h => ?_) (fun h => ?_) h
      · refine w_a f_420_3157 ?_
        exact w_n (ks := [0, 1, 2, 3, 4]) rfl h
      · refine w_a f_420_3155 ?_
        refine w_a f_420_3156 ?_
        exact h
    · refine w_a f_420_3157 ?_
      exact w_n (ks := [0, 1, 2, 3, 4]) rfl h
  · refine w_a f_420_3138 ?_
    refine w_a f_420_3139 ?_
    exact h
set_option maxRecDepth 10000 in
set_option maxHeartbeats 4000000 in
theorem s_420_3160 {Lx : Nat} {I : Mi} {L : Ml} {e : Nat} {Q : Kq} {x4 : Int32} (h :
    (inb (x4 + (Int32.ofInt 1)) Lx (
     (inb (x4 + (Int32.ofInt 2)) Lx (
      (if (I 0 ((x4 + (Int32.ofInt 2)).toNatClampNeg)) = 0 then
       (inb (x4 + (Int32.ofInt 3)) Lx (
        (inb (x4 + (Int32.ofInt 4)) Lx (
         (if (I 0 ((x4 + (Int32.ofInt 4)).toNatClampNeg)) = 0 then
          (inb (x4 + (Int32.ofInt 5)) Lx (
           (if (I 0 ((x4 + (Int32.ofInt 5)).toNatClampNeg)) = 0 then
            Wp 397 0 [(0, .ref 1), (1, .int (I 0 ((x4 + (Int32.ofInt 1)).toNatClampNeg))), (2, .int (Int32.ofInt 0)), (3, .int (I 0 ((x4 + (Int32.ofInt 3)).toNatClampNeg))), (4, .int (Int32.ofInt 0)), (5, .int (Int32.ofInt 0)), (6, .ref 70)] [] (gE Lx) I L e (kcp (Wp 420) 420 3216 0 [(0, .ref 0), (1, .ref 1), (2, .ref 58), (3, .ref 70), (4, .int x4)] 71 [] Q)
           else
            Wp 397 0 [(0, .ref 1), (1, .int (I 0 ((x4 + (Int32.ofInt 1)).toNatClampNeg))), (2, .int (Int32.ofInt 0)), (3, .int (I 0 ((x4 + (Int32.ofInt 3)).toNatClampNeg))), (4, .int (Int32.ofInt 0)), (5, .int (Int32.ofInt 1)), (6, .ref 70)] [] (gE Lx) I L e (kcp (Wp 420) 420 3216 0 [(0, .ref 0), (1, .ref 1), (2, .ref 58), (3, .ref 70), (4, .int x4)] 71 [] Q)))
          False)
         else
          (inb (x4 + (Int32.ofInt 5)) Lx (
           (if (I 0 ((x4 + (Int32.ofInt 5)).toNatClampNeg)) = 0 then
            Wp 397 0 [(0, .ref 1), (1, .int (I 0 ((x4 + (Int32.ofInt 1)).toNatClampNeg))), (2, .int (Int32.ofInt 0)), (3, .int (I 0 ((x4 + (Int32.ofInt 3)).toNatClampNeg))), (4, .int (Int32.ofInt 1)), (5, .int (Int32.ofInt 0)), (6, .ref 70)] [] (gE Lx) I L e (kcp (Wp 420) 420 3216 0 [(0, .ref 0), (1, .ref 1), (2, .ref 58), (3, .ref 70), (4, .int x4)] 71 [] Q)
           else
            Wp 397 0 [(0, .ref 1), (1, .int (I 0 ((x4 + (Int32.ofInt 1)).toNatClampNeg))), (2, .int (Int32.ofInt 0)), (3, .int (I 0 ((x4 + (Int32.ofInt 3)).toNatClampNeg))), (4, .int (Int32.ofInt 1)), (5, .int (Int32.ofInt 1)), (6, .ref 70)] [] (gE Lx) I L e (kcp (Wp 420) 420 3216 0 [(0, .ref 0), (1, .ref 1), (2, .ref 58), (3, .ref 70), (4, .int x4)] 71 [] Q)))
          False)))
        False))
       False)
      else
       (inb (x4 + (Int32.ofInt 3)) Lx (
        (inb (x4 + (Int32.ofInt 4)) Lx (
         (if (I 0 ((x4 + (Int32.ofInt 4)).toNatClampNeg)) = 0 then
          (inb (x4 + (Int32.ofInt 5)) Lx (
           (if (I 0 ((x4 + (Int32.ofInt 5)).toNatClampNeg)) = 0 then
            Wp 397 0 [(0, .ref 1), (1, .int (I 0 ((x4 + (Int32.ofInt 1)).toNatClampNeg))), (2, .int (Int32.ofInt 1)), (3, .int (I 0 ((x4 + (Int32.ofInt 3)).toNatClampNeg))), (4, .int (Int32.ofInt 0)), (5, .int (Int32.ofInt 0)), (6, .ref 70)] [] (gE Lx) I L e (kcp (Wp 420) 420 3216 0 [(0, .ref 0), (1, .ref 1), (2, .ref 58), (3, .ref 70), (4, .int x4)] 71 [] Q)
           else
            Wp 397 0 [(0, .ref 1), (1, .int (I 0 ((x4 + (Int32.ofInt 1)).toNatClampNeg))), (2, .int (Int32.ofInt 1)), (3, .int (I 0 ((x4 + (Int32.ofInt 3)).toNatClampNeg))), (4, .int (Int32.ofInt 0)), (5, .int (Int32.ofInt 1)), (6, .ref 70)] [] (gE Lx) I L e (kcp (Wp 420) 420 3216 0 [(0, .ref 0), (1, .ref 1), (2, .ref 58), (3, .ref 70), (4, .int x4)] 71 [] Q)))
          False)
         else
          (inb (x4 + (Int32.ofInt 5)) Lx (
           (if (I 0 ((x4 + (Int32.ofInt 5)).toNatClampNeg)) = 0 then
            Wp 397 0 [(0, .ref 1), (1, .int (I 0 ((x4 + (Int32.ofInt 1)).toNatClampNeg))), (2, .int (Int32.ofInt 1)), (3, .int (I 0 ((x4 + (Int32.ofInt 3)).toNatClampNeg))), (4, .int (Int32.ofInt 1)), (5, .int (Int32.ofInt 0)), (6, .ref 70)] [] (gE Lx) I L e (kcp (Wp 420) 420 3216 0 [(0, .ref 0), (1, .ref 1), (2, .ref 58), (3, .ref 70), (4, .int x4)] 71 [] Q)
           else
            Wp 397 0 [(0, .ref 1), (1, .int (I 0 ((x4 + (Int32.ofInt 1)).toNatClampNeg))), (2, .int (Int32.ofInt 1)), (3, .int (I 0 ((x4 + (Int32.ofInt 3)).toNatClampNeg))), (4, .int (Int32.ofInt 1)), (5, .int (Int32.ofInt 1)), (6, .ref 70)] [] (gE Lx) I L e (kcp (Wp 420) 420 3216 0 [(0, .ref 0), (1, .ref 1), (2, .ref 58), (3, .ref 70), (4, .int x4)] 71 [] Q)))
          False)))
        False))
       False)))
     False))
    False)) :
    Wp 420 3160 [(0, .ref 0), (1, .ref 1), (2, .ref 58), (3, .ref 70), (4, .int x4)] [] (gE Lx) I L e Q := by
  refine w_a f_420_3160 ?_
  refine w_a f_420_3161 ?_
  refine w_a f_420_3162 ?_
  refine w_a f_420_3164 ?_
  refine w_a f_420_3165 ?_
  refine w_a f_420_3166 ?_
  refine n_m (fun h => ?_) h
  refine w_a f_420_3167 ?_
  refine w_a f_420_3168 ?_
  refine w_a f_420_3170 ?_
  refine w_a f_420_3171 ?_
  refine w_a f_420_3172 ?_
  refine n_m (fun h => ?_) h
  refine w_a f_420_3173 ?_
  refine i_m (fun h => ?_) (fun h => ?_) h
  · refine w_a f_420_3180 ?_
    refine w_a f_420_3181 ?_
    refine w_a f_420_3182 ?_
    refine w_a f_420_3184 ?_
    refine w_a f_420_3185 ?_
    refine w_a f_420_3186 ?_
    refine n_m (fun h => ?_) h
    refine w_a f_420_3187 ?_
    refine w_a f_420_3188 ?_
    refine w_a f_420_3190 ?_
    refine w_a f_420_3191 ?_
    refine w_a f_420_3192 ?_
    refine n_m (fun h => ?_) h
    refine w_a f_420_3193 ?_
    refine i_m (fun h => ?_) (fun h => ?_) h
    · refine w_a f_420_3200 ?_
      refine w_a f_420_3201 ?_
      refine w_a f_420_3202 ?_
      refine w_a f_420_3204 ?_
      refine w_a f_420_3205 ?_
      refine w_a f_420_3206 ?_
      refine n_m (fun h => ?_) h
      refine w_a f_420_3207 ?_
      refine i_m (fun h => ?_) (fun h => ?_) h
      · refine w_a f_420_3214 ?_
        refine w_a f_420_3215 ?_
        exact w_c (ks := [0, 1, 2, 3, 4]) f_420_3216 rfl rfl h
      · refine w_a f_420_3210 ?_
        refine w_a f_420_3211 ?_
        refine w_a f_420_3215 ?_
        exact w_c (ks := [0, 1, 2, 3, 4]) f_420_3216 rfl rfl h
    · refine w_a f_420_3196 ?_
      refine w_a f_420_3197 ?_
      refine w_a f_420_3201 ?_
      refine w_a f_420_3202 ?_
      refine w_a f_420_3204 ?_
      refine w_a f_420_3205 ?_
      refine w_a f_420_3206 ?_
      refine n_m (fun h => ?_) h
      refine w_a f_420_3207 ?_
      refine i_m (fun h => ?_) (fun h => ?_) h
      · refine w_a f_420_3214 ?_
        refine w_a f_420_3215 ?_
        exact w_c (ks := [0, 1, 2, 3, 4]) f_420_3216 rfl rfl h
      · refine w_a f_420_3210 ?_
        refine w_a f_420_3211 ?_
        refine w_a f_420_3215 ?_
        exact w_c (ks := [0, 1, 2, 3, 4]) f_420_3216 rfl rfl h
  · refine w_a f_420_3176 ?_
    refine w_a f_420_3177 ?_
    refine w_a f_420_3181 ?_
    refine w_a f_420_3182 ?_
    refine w_a f_420_3184 ?_
    refine w_a f_420_3185 ?_
    refine w_a f_420_3186 ?_
    refine n_m (fun h => ?_) h
    refine w_a f_420_3187 ?_
    refine w_a f_420_3188 ?_
    refine w_a f_420_3190 ?_
    refine w_a f_420_3191 ?_
    refine w_a f_420_3192 ?_
    refine n_m (fun h => ?_) h
    refine w_a f_420_3193 ?_
    refine i_m (fun h => ?_) (fun h => ?_) h
    · refine w_a f_420_3200 ?_
      refine w_a f_420_3201 ?_
      refine w_a f_420_3202 ?_
      refine w_a f_420_3204 ?_
      refine w_a f_420_3205 ?_
      refine w_a f_420_3206 ?_
      refine n_m (fun h => ?_) h
      refine w_a f_420_3207 ?_
      refine i_m (fun h => ?_) (fun h => ?_) h
      · refine w_a f_420_3214 ?_
        refine w_a f_420_3215 ?_
        exact w_c (ks := [0, 1, 2, 3, 4]) f_420_3216 rfl rfl h
      · refine w_a f_420_3210 ?_
        refine w_a f_420_3211 ?_
        refine w_a f_420_3215 ?_
        exact w_c (ks := [0, 1, 2, 3, 4]) f_420_3216 rfl rfl h
    · refine w_a f_420_3196 ?_
      refine w_a f_420_3197 ?_
      refine w_a f_420_3201 ?_
      refine w_a f_420_3202 ?_
      refine w_a f_420_3204 ?_
      refine w_a f_420_3205 ?_
      refine w_a f_420_3206 ?_
      refine n_m (fun h => ?_) h
      refine w_a f_420_3207 ?_
      refine i_m (fun h => ?_) (fun h => ?_) h
      · refine w_a f_420_3214 ?_
        refine w_a f_420_3215 ?_
        exact w_c (ks := [0, 1, 2, 3, 4]) f_420_3216 rfl rfl h
      · refine w_a f_420_3210 ?_
        refine w_a f_420_3211 ?_
        refine w_a f_420_3215 ?_
        exact w_c (ks := [0, 1, 2, 3, 4]) f_420_3216 rfl rfl h
set_option maxRecDepth 10000 in
set_option maxHeartbeats 4000000 in
theorem s_420_3219 {Lx : Nat} {I : Mi} {L : Ml} {e : Nat} {Q : Kq} {x4 : Int32} {r : Int32} (h :
    (inb (x4 + (Int32.ofInt 1)) Lx (
     (inb (x4 + (Int32.ofInt 2)) Lx (
      (if (I 0 ((x4 + (Int32.ofInt 2)).toNatClampNeg)) = 0 then
       (inb (x4 + (Int32.ofInt 3)) Lx (
        (inb (x4 + (Int32.ofInt 4)) Lx (
         (if (I 0 ((x4 + (Int32.ofInt 4)).toNatClampNeg)) = 0 then
          (inb (x4 + (Int32.ofInt 5)) Lx (
           (if (I 0 ((x4 + (Int32.ofInt 5)).toNatClampNeg)) = 0 then
            Wp 299 0 [(0, .ref 58), (1, .int (I 0 ((x4 + (Int32.ofInt 1)).toNatClampNeg))), (2, .int (Int32.ofInt 0)), (3, .int (I 0 ((x4 + (Int32.ofInt 3)).toNatClampNeg))), (4, .int (Int32.ofInt 0)), (5, .int (Int32.ofInt 0))] [] (gE Lx) I L e (kcp (Wp 420) 420 3276 0 [(0, .ref 0), (1, .ref 1), (2, .ref 58), (3, .ref 70), (4, .int x4), (5, .int r)] 71 [] Q)
           else
            Wp 299 0 [(0, .ref 58), (1, .int (I 0 ((x4 + (Int32.ofInt 1)).toNatClampNeg))), (2, .int (Int32.ofInt 0)), (3, .int (I 0 ((x4 + (Int32.ofInt 3)).toNatClampNeg))), (4, .int (Int32.ofInt 0)), (5, .int (Int32.ofInt 1))] [] (gE Lx) I L e (kcp (Wp 420) 420 3276 0 [(0, .ref 0), (1, .ref 1), (2, .ref 58), (3, .ref 70), (4, .int x4), (5, .int r)] 71 [] Q)))
          False)
         else
          (inb (x4 + (Int32.ofInt 5)) Lx (
           (if (I 0 ((x4 + (Int32.ofInt 5)).toNatClampNeg)) = 0 then
            Wp 299 0 [(0, .ref 58), (1, .int (I 0 ((x4 + (Int32.ofInt 1)).toNatClampNeg))), (2, .int (Int32.ofInt 0)), (3, .int (I 0 ((x4 + (Int32.ofInt 3)).toNatClampNeg))), (4, .int (Int32.ofInt 1)), (5, .int (Int32.ofInt 0))] [] (gE Lx) I L e (kcp (Wp 420) 420 3276 0 [(0, .ref 0), (1, .ref 1), (2, .ref 58), (3, .ref 70), (4, .int x4), (5, .int r)] 71 [] Q)
           else
            Wp 299 0 [(0, .ref 58), (1, .int (I 0 ((x4 + (Int32.ofInt 1)).toNatClampNeg))), (2, .int (Int32.ofInt 0)), (3, .int (I 0 ((x4 + (Int32.ofInt 3)).toNatClampNeg))), (4, .int (Int32.ofInt 1)), (5, .int (Int32.ofInt 1))] [] (gE Lx) I L e (kcp (Wp 420) 420 3276 0 [(0, .ref 0), (1, .ref 1), (2, .ref 58), (3, .ref 70), (4, .int x4), (5, .int r)] 71 [] Q)))
          False)))
        False))
       False)
      else
       (inb (x4 + (Int32.ofInt 3)) Lx (
        (inb (x4 + (Int32.ofInt 4)) Lx (
         (if (I 0 ((x4 + (Int32.ofInt 4)).toNatClampNeg)) = 0 then
          (inb (x4 + (Int32.ofInt 5)) Lx (
           (if (I 0 ((x4 + (Int32.ofInt 5)).toNatClampNeg)) = 0 then
            Wp 299 0 [(0, .ref 58), (1, .int (I 0 ((x4 + (Int32.ofInt 1)).toNatClampNeg))), (2, .int (Int32.ofInt 1)), (3, .int (I 0 ((x4 + (Int32.ofInt 3)).toNatClampNeg))), (4, .int (Int32.ofInt 0)), (5, .int (Int32.ofInt 0))] [] (gE Lx) I L e (kcp (Wp 420) 420 3276 0 [(0, .ref 0), (1, .ref 1), (2, .ref 58), (3, .ref 70), (4, .int x4), (5, .int r)] 71 [] Q)
           else
            Wp 299 0 [(0, .ref 58), (1, .int (I 0 ((x4 + (Int32.ofInt 1)).toNatClampNeg))), (2, .int (Int32.ofInt 1)), (3, .int (I 0 ((x4 + (Int32.ofInt 3)).toNatClampNeg))), (4, .int (Int32.ofInt 0)), (5, .int (Int32.ofInt 1))] [] (gE Lx) I L e (kcp (Wp 420) 420 3276 0 [(0, .ref 0), (1, .ref 1), (2, .ref 58), (3, .ref 70), (4, .int x4), (5, .int r)] 71 [] Q)))
          False)
         else
          (inb (x4 + (Int32.ofInt 5)) Lx (
           (if (I 0 ((x4 + (Int32.ofInt 5)).toNatClampNeg)) = 0 then
            Wp 299 0 [(0, .ref 58), (1, .int (I 0 ((x4 + (Int32.ofInt 1)).toNatClampNeg))), (2, .int (Int32.ofInt 1)), (3, .int (I 0 ((x4 + (Int32.ofInt 3)).toNatClampNeg))), (4, .int (Int32.ofInt 1)), (5, .int (Int32.ofInt 0))] [] (gE Lx) I L e (kcp (Wp 420) 420 3276 0 [(0, .ref 0), (1, .ref 1), (2, .ref 58), (3, .ref 70), (4, .int x4), (5, .int r)] 71 [] Q)
           else
            Wp 299 0 [(0, .ref 58), (1, .int (I 0 ((x4 + (Int32.ofInt 1)).toNatClampNeg))), (2, .int (Int32.ofInt 1)), (3, .int (I 0 ((x4 + (Int32.ofInt 3)).toNatClampNeg))), (4, .int (Int32.ofInt 1)), (5, .int (Int32.ofInt 1))] [] (gE Lx) I L e (kcp (Wp 420) 420 3276 0 [(0, .ref 0), (1, .ref 1), (2, .ref 58), (3, .ref 70), (4, .int x4), (5, .int r)] 71 [] Q)))
          False)))
        False))
       False)))
     False))
    False)) :
    Wp 420 3219 [(0, .ref 0), (1, .ref 1), (2, .ref 58), (3, .ref 70), (4, .int x4)] [.int r] (gE Lx) I L e Q := by
  refine w_a f_420_3219 ?_
  refine w_a (ls := [(5, .int r), (0, .ref 0), (1, .ref 1), (2, .ref 58), (3, .ref 70), (4, .int x4)]) f_420_3221 ?_
  refine w_a f_420_3222 ?_
  refine w_a f_420_3223 ?_
  refine w_a f_420_3225 ?_
  refine w_a f_420_3226 ?_
  refine w_a f_420_3227 ?_
  refine n_m (fun h => ?_) h
  refine w_a f_420_3228 ?_
  refine w_a f_420_3229 ?_
  refine w_a f_420_3231 ?_
  refine w_a f_420_3232 ?_
  refine w_a f_420_3233 ?_
  refine n_m (fun h => ?_) h
  refine w_a f_420_3234 ?_
  refine i_m (fun h => ?_) (fun h => ?_) h
  · refine w_a f_420_3241 ?_
    refine w_a f_420_3242 ?_
    refine w_a f_420_3243 ?_
    refine w_a f_420_3245 ?_
    refine w_a f_420_3246 ?_
    refine w_a f_420_3247 ?_
    refine n_m (fun h => ?_) h
    refine w_a f_420_3248 ?_
    refine w_a f_420_3249 ?_
    refine w_a f_420_3251 ?_
    refine w_a f_420_3252 ?_
    refine w_a f_420_3253 ?_
    refine n_m (fun h => ?_) h
    refine w_a f_420_3254 ?_
    refine i_m (fun h => ?_) (fun h => ?_) h
    · refine w_a f_420_3261 ?_
      refine w_a f_420_3262 ?_
      refine w_a f_420_3263 ?_
      refine w_a f_420_3265 ?_
      refine w_a f_420_3266 ?_
      refine w_a f_420_3267 ?_
      refine n_m (fun h => ?_) h
      refine w_a f_420_3268 ?_
      refine i_m (fun h => ?_) (fun h => ?_) h
      · refine w_a f_420_3275 ?_
        exact w_c (ks := [0, 1, 2, 3, 4, 5]) f_420_3276 rfl rfl h
      · refine w_a f_420_3271 ?_
        refine w_a f_420_3272 ?_
        exact w_c (ks := [0, 1, 2, 3, 4, 5]) f_420_3276 rfl rfl h
    · refine w_a f_420_3257 ?_
      refine w_a f_420_3258 ?_
      refine w_a f_420_3262 ?_
      refine w_a f_420_3263 ?_
      refine w_a f_420_3265 ?_
      refine w_a f_420_3266 ?_
      refine w_a f_420_3267 ?_
      refine n_m (fun h => ?_) h
      refine w_a f_420_3268 ?_
      refine i_m (fun h => ?_) (fun h => ?_) h
      · refine w_a f_420_3275 ?_
        exact w_c (ks := [0, 1, 2, 3, 4, 5]) f_420_3276 rfl rfl h
      · refine w_a f_420_3271 ?_
        refine w_a f_420_3272 ?_
        exact w_c (ks := [0, 1, 2, 3, 4, 5]) f_420_3276 rfl rfl h
  · refine w_a f_420_3237 ?_
    refine w_a f_420_3238 ?_
    refine w_a f_420_3242 ?_
    refine w_a f_420_3243 ?_
    refine w_a f_420_3245 ?_
    refine w_a f_420_3246 ?_
    refine w_a f_420_3247 ?_
    refine n_m (fun h => ?_) h
    refine w_a f_420_3248 ?_
    refine w_a f_420_3249 ?_
    refine w_a f_420_3251 ?_
    refine w_a f_420_3252 ?_
    refine w_a f_420_3253 ?_
    refine n_m (fun h => ?_) h
    refine w_a f_420_3254 ?_
    refine i_m (fun h => ?_) (fun h => ?_) h
    · refine w_a f_420_3261 ?_
      refine w_a f_420_3262 ?_
      refine w_a f_420_3263 ?_
      refine w_a f_420_3265 ?_
      refine w_a f_420_3266 ?_
      refine w_a f_420_3267 ?_
      refine n_m (fun h => ?_) h
      refine w_a f_420_3268 ?_
      refine i_m (fun h => ?_) (fun h => ?_) h
      · refine w_a f_420_3275 ?_
        exact w_c (ks := [0, 1, 2, 3, 4, 5]) f_420_3276 rfl rfl h
      · refine w_a f_420_3271 ?_
        refine w_a f_420_3272 ?_
        exact w_c (ks := [0, 1, 2, 3, 4, 5]) f_420_3276 rfl rfl h
    · refine w_a f_420_3257 ?_
      refine w_a f_420_3258 ?_
      refine w_a f_420_3262 ?_
      refine w_a f_420_3263 ?_
      refine w_a f_420_3265 ?_
      refine w_a f_420_3266 ?_
      refine w_a f_420_3267 ?_
      refine n_m (fun h => ?_) h
      refine w_a f_420_3268 ?_
      refine i_m (fun h => ?_) (fun h => ?_) h
      · refine w_a f_420_3275 ?_
        exact w_c (ks := [0, 1, 2, 3, 4, 5]) f_420_3276 rfl rfl h
      · refine w_a f_420_3271 ?_
        refine w_a f_420_3272 ?_
        exact w_c (ks := [0, 1, 2, 3, 4, 5]) f_420_3276 rfl rfl h
set_option maxRecDepth 10000 in
set_option maxHeartbeats 4000000 in
theorem s_420_3279 {Lx : Nat} {I : Mi} {L : Ml} {e : Nat} {Q : Kq} {x4 : Int32} {x5 : Int32} {rl : Int64} (h :
    (if (I 58 0) = x5 then
     (if x5 = 0 then
      (if (L 70 0) = rl then
       Wp 420 4917 [(0, .ref 0), (1, .ref 1), (2, .ref 58), (3, .ref 70), (4, .int x4)] [] (gE Lx) I L e Q
      else
       Q (.inl (some (.int (Int32.ofInt 0)))) (gE Lx) I L e)
     else
      Wp 420 4917 [(0, .ref 0), (1, .ref 1), (2, .ref 58), (3, .ref 70), (4, .int x4)] [] (gE Lx) I L e Q)
    else
     Q (.inl (some (.int (Int32.ofInt 0)))) (gE Lx) I L e)) :
    Wp 420 3279 [(0, .ref 0), (1, .ref 1), (2, .ref 58), (3, .ref 70), (4, .int x4), (5, .int x5)] [.long rl] (gE Lx) I L e Q := by
  refine w_a f_420_3279 ?_
  refine w_a (ls := [(6, .long rl), (0, .ref 0), (1, .ref 1), (2, .ref 58), (3, .ref 70), (4, .int x4), (5, .int x5)]) f_420_3281 ?_
  refine w_a f_420_3282 ?_
  refine w_a (ls := [(0, .ref 58)]) f_212_0 ?_
  refine w_a f_212_1 ?_
  refine w_a f_212_4 ?_
  refine w_a (ls := [(6, .long rl), (0, .ref 0), (1, .ref 1), (2, .ref 58), (3, .ref 70), (4, .int x4), (5, .int x5)]) f_420_3285 ?_
  refine w_a f_420_3287 ?_
  refine i_m (fun h => ?_) (fun h => ?_) h
  · refine w_a f_420_3292 ?_
    refine w_a f_420_3294 ?_
    refine i_m (fun h => ?_) (fun h => ?_) h
    · refine w_a f_420_3297 ?_
      refine w_a f_420_3298 ?_
      refine w_a f_420_3299 ?_
      refine w_a f_420_3300 ?_
      refine w_a f_420_3302 ?_
      refine i_m (fun h => ?_) (fun h => ?_) h
      · refine w_a f_420_3308 ?_
        exact w_n (ks := [0, 1, 2, 3, 4]) rfl h
      · refine w_a f_420_3306 ?_
        refine w_a f_420_3307 ?_
        exact h
    · refine w_a f_420_3308 ?_
      exact w_n (ks := [0, 1, 2, 3, 4]) rfl h
  · refine w_a f_420_3290 ?_
    refine w_a f_420_3291 ?_
    exact h
set_option maxRecDepth 10000 in
set_option maxHeartbeats 4000000 in
theorem s_420_3311 {Lx : Nat} {I : Mi} {L : Ml} {e : Nat} {Q : Kq} {x4 : Int32} (h :
    (inb (x4 + (Int32.ofInt 1)) Lx (
     (inb (x4 + (Int32.ofInt 2)) Lx (
      (if (I 0 ((x4 + (Int32.ofInt 2)).toNatClampNeg)) = 0 then
       (inb (x4 + (Int32.ofInt 3)) Lx (
        (if (I 0 ((x4 + (Int32.ofInt 3)).toNatClampNeg)) = 0 then
         Wp 398 0 [(0, .ref 1), (1, .int (I 0 ((x4 + (Int32.ofInt 1)).toNatClampNeg))), (2, .int (Int32.ofInt 0)), (3, .int (Int32.ofInt 0)), (4, .ref 70)] [] (gE Lx) I L e (kcp (Wp 420) 420 3347 0 [(0, .ref 0), (1, .ref 1), (2, .ref 58), (3, .ref 70), (4, .int x4)] 71 [] Q)
        else
         Wp 398 0 [(0, .ref 1), (1, .int (I 0 ((x4 + (Int32.ofInt 1)).toNatClampNeg))), (2, .int (Int32.ofInt 0)), (3, .int (Int32.ofInt 1)), (4, .ref 70)] [] (gE Lx) I L e (kcp (Wp 420) 420 3347 0 [(0, .ref 0), (1, .ref 1), (2, .ref 58), (3, .ref 70), (4, .int x4)] 71 [] Q)))
       False)
      else
       (inb (x4 + (Int32.ofInt 3)) Lx (
        (if (I 0 ((x4 + (Int32.ofInt 3)).toNatClampNeg)) = 0 then
         Wp 398 0 [(0, .ref 1), (1, .int (I 0 ((x4 + (Int32.ofInt 1)).toNatClampNeg))), (2, .int (Int32.ofInt 1)), (3, .int (Int32.ofInt 0)), (4, .ref 70)] [] (gE Lx) I L e (kcp (Wp 420) 420 3347 0 [(0, .ref 0), (1, .ref 1), (2, .ref 58), (3, .ref 70), (4, .int x4)] 71 [] Q)
        else
         Wp 398 0 [(0, .ref 1), (1, .int (I 0 ((x4 + (Int32.ofInt 1)).toNatClampNeg))), (2, .int (Int32.ofInt 1)), (3, .int (Int32.ofInt 1)), (4, .ref 70)] [] (gE Lx) I L e (kcp (Wp 420) 420 3347 0 [(0, .ref 0), (1, .ref 1), (2, .ref 58), (3, .ref 70), (4, .int x4)] 71 [] Q)))
       False)))
     False))
    False)) :
    Wp 420 3311 [(0, .ref 0), (1, .ref 1), (2, .ref 58), (3, .ref 70), (4, .int x4)] [] (gE Lx) I L e Q := by
  refine w_a f_420_3311 ?_
  refine w_a f_420_3312 ?_
  refine w_a f_420_3313 ?_
  refine w_a f_420_3315 ?_
  refine w_a f_420_3316 ?_
  refine w_a f_420_3317 ?_
  refine n_m (fun h => ?_) h
  refine w_a f_420_3318 ?_
  refine w_a f_420_3319 ?_
  refine w_a f_420_3321 ?_
  refine w_a f_420_3322 ?_
  refine w_a f_420_3323 ?_
  refine n_m (fun h => ?_) h
  refine w_a f_420_3324 ?_
  refine i_m (fun h => ?_) (fun h => ?_) h
  · refine w_a f_420_3331 ?_
    refine w_a f_420_3332 ?_
    refine w_a f_420_3333 ?_
    refine w_a f_420_3335 ?_
    refine w_a f_420_3336 ?_
    refine w_a f_420_3337 ?_
    refine n_m (fun h => ?_) h
    refine w_a f_420_3338 ?_
    refine i_m (fun h => ?_) (fun h => ?_) h
    · refine w_a f_420_3345 ?_
      refine w_a f_420_3346 ?_
      exact w_c (ks := [0, 1, 2, 3, 4]) f_420_3347 rfl rfl h
    · refine w_a f_420_3341 ?_
      refine w_a f_420_3342 ?_
      refine w_a f_420_3346 ?_
      exact w_c (ks := [0, 1, 2, 3, 4]) f_420_3347 rfl rfl h
  · refine w_a f_420_3327 ?_
    refine w_a f_420_3328 ?_
    refine w_a f_420_3332 ?_
    refine w_a f_420_3333 ?_
    refine w_a f_420_3335 ?_
    refine w_a f_420_3336 ?_
    refine w_a f_420_3337 ?_
    refine n_m (fun h => ?_) h
    refine w_a f_420_3338 ?_
    refine i_m (fun h => ?_) (fun h => ?_) h
    · refine w_a f_420_3345 ?_
      refine w_a f_420_3346 ?_
      exact w_c (ks := [0, 1, 2, 3, 4]) f_420_3347 rfl rfl h
    · refine w_a f_420_3341 ?_
      refine w_a f_420_3342 ?_
      refine w_a f_420_3346 ?_
      exact w_c (ks := [0, 1, 2, 3, 4]) f_420_3347 rfl rfl h
set_option maxRecDepth 10000 in
set_option maxHeartbeats 4000000 in
theorem s_420_3350 {Lx : Nat} {I : Mi} {L : Ml} {e : Nat} {Q : Kq} {x4 : Int32} {r : Int32} (h :
    (inb (x4 + (Int32.ofInt 1)) Lx (
     (inb (x4 + (Int32.ofInt 2)) Lx (
      (if (I 0 ((x4 + (Int32.ofInt 2)).toNatClampNeg)) = 0 then
       (inb (x4 + (Int32.ofInt 3)) Lx (
        (if (I 0 ((x4 + (Int32.ofInt 3)).toNatClampNeg)) = 0 then
         Wp 300 0 [(0, .ref 58), (1, .int (I 0 ((x4 + (Int32.ofInt 1)).toNatClampNeg))), (2, .int (Int32.ofInt 0)), (3, .int (Int32.ofInt 0))] [] (gE Lx) I L e (kcp (Wp 420) 420 3387 0 [(0, .ref 0), (1, .ref 1), (2, .ref 58), (3, .ref 70), (4, .int x4), (5, .int r)] 71 [] Q)
        else
         Wp 300 0 [(0, .ref 58), (1, .int (I 0 ((x4 + (Int32.ofInt 1)).toNatClampNeg))), (2, .int (Int32.ofInt 0)), (3, .int (Int32.ofInt 1))] [] (gE Lx) I L e (kcp (Wp 420) 420 3387 0 [(0, .ref 0), (1, .ref 1), (2, .ref 58), (3, .ref 70), (4, .int x4), (5, .int r)] 71 [] Q)))
       False)
      else
       (inb (x4 + (Int32.ofInt 3)) Lx (
        (if (I 0 ((x4 + (Int32.ofInt 3)).toNatClampNeg)) = 0 then
         Wp 300 0 [(0, .ref 58), (1, .int (I 0 ((x4 + (Int32.ofInt 1)).toNatClampNeg))), (2, .int (Int32.ofInt 1)), (3, .int (Int32.ofInt 0))] [] (gE Lx) I L e (kcp (Wp 420) 420 3387 0 [(0, .ref 0), (1, .ref 1), (2, .ref 58), (3, .ref 70), (4, .int x4), (5, .int r)] 71 [] Q)
        else
         Wp 300 0 [(0, .ref 58), (1, .int (I 0 ((x4 + (Int32.ofInt 1)).toNatClampNeg))), (2, .int (Int32.ofInt 1)), (3, .int (Int32.ofInt 1))] [] (gE Lx) I L e (kcp (Wp 420) 420 3387 0 [(0, .ref 0), (1, .ref 1), (2, .ref 58), (3, .ref 70), (4, .int x4), (5, .int r)] 71 [] Q)))
       False)))
     False))
    False)) :
    Wp 420 3350 [(0, .ref 0), (1, .ref 1), (2, .ref 58), (3, .ref 70), (4, .int x4)] [.int r] (gE Lx) I L e Q := by
  refine w_a f_420_3350 ?_
  refine w_a (ls := [(5, .int r), (0, .ref 0), (1, .ref 1), (2, .ref 58), (3, .ref 70), (4, .int x4)]) f_420_3352 ?_
  refine w_a f_420_3353 ?_
  refine w_a f_420_3354 ?_
  refine w_a f_420_3356 ?_
  refine w_a f_420_3357 ?_
  refine w_a f_420_3358 ?_
  refine n_m (fun h => ?_) h
  refine w_a f_420_3359 ?_
  refine w_a f_420_3360 ?_
  refine w_a f_420_3362 ?_
  refine w_a f_420_3363 ?_
  refine w_a f_420_3364 ?_
  refine n_m (fun h => ?_) h
  refine w_a f_420_3365 ?_
  refine i_m (fun h => ?_) (fun h => ?_) h
  · refine w_a f_420_3372 ?_
    refine w_a f_420_3373 ?_
    refine w_a f_420_3374 ?_
    refine w_a f_420_3376 ?_
    refine w_a f_420_3377 ?_
    refine w_a f_420_3378 ?_
    refine n_m (fun h => ?_) h
    refine w_a f_420_3379 ?_
    refine i_m (fun h => ?_) (fun h => ?_) h
    · refine w_a f_420_3386 ?_
      exact w_c (ks := [0, 1, 2, 3, 4, 5]) f_420_3387 rfl rfl h
    · refine w_a f_420_3382 ?_
      refine w_a f_420_3383 ?_
      exact w_c (ks := [0, 1, 2, 3, 4, 5]) f_420_3387 rfl rfl h
  · refine w_a f_420_3368 ?_
    refine w_a f_420_3369 ?_
    refine w_a f_420_3373 ?_
    refine w_a f_420_3374 ?_
    refine w_a f_420_3376 ?_
    refine w_a f_420_3377 ?_
    refine w_a f_420_3378 ?_
    refine n_m (fun h => ?_) h
    refine w_a f_420_3379 ?_
    refine i_m (fun h => ?_) (fun h => ?_) h
    · refine w_a f_420_3386 ?_
      exact w_c (ks := [0, 1, 2, 3, 4, 5]) f_420_3387 rfl rfl h
    · refine w_a f_420_3382 ?_
      refine w_a f_420_3383 ?_
      exact w_c (ks := [0, 1, 2, 3, 4, 5]) f_420_3387 rfl rfl h
set_option maxRecDepth 10000 in
set_option maxHeartbeats 4000000 in
theorem s_420_3390 {Lx : Nat} {I : Mi} {L : Ml} {e : Nat} {Q : Kq} {x4 : Int32} {x5 : Int32} {rl : Int64} (h :
    (if (I 58 0) = x5 then
     (if x5 = 0 then
      (if (L 70 0) = rl then
       Wp 420 4917 [(0, .ref 0), (1, .ref 1), (2, .ref 58), (3, .ref 70), (4, .int x4)] [] (gE Lx) I L e Q
      else
       Q (.inl (some (.int (Int32.ofInt 0)))) (gE Lx) I L e)
     else
      Wp 420 4917 [(0, .ref 0), (1, .ref 1), (2, .ref 58), (3, .ref 70), (4, .int x4)] [] (gE Lx) I L e Q)
    else
     Q (.inl (some (.int (Int32.ofInt 0)))) (gE Lx) I L e)) :
    Wp 420 3390 [(0, .ref 0), (1, .ref 1), (2, .ref 58), (3, .ref 70), (4, .int x4), (5, .int x5)] [.long rl] (gE Lx) I L e Q := by
  refine w_a f_420_3390 ?_
  refine w_a (ls := [(6, .long rl), (0, .ref 0), (1, .ref 1), (2, .ref 58), (3, .ref 70), (4, .int x4), (5, .int x5)]) f_420_3392 ?_
  refine w_a f_420_3393 ?_
  refine w_a (ls := [(0, .ref 58)]) f_212_0 ?_
  refine w_a f_212_1 ?_
  refine w_a f_212_4 ?_
  refine w_a (ls := [(6, .long rl), (0, .ref 0), (1, .ref 1), (2, .ref 58), (3, .ref 70), (4, .int x4), (5, .int x5)]) f_420_3396 ?_
  refine w_a f_420_3398 ?_
  refine i_m (fun h => ?_) (fun h => ?_) h
  · refine w_a f_420_3403 ?_
    refine w_a f_420_3405 ?_
    refine i_m (fun h => ?_) (fun h => ?_) h
    · refine w_a f_420_3408 ?_
      refine w_a f_420_3409 ?_
      refine w_a f_420_3410 ?_
      refine w_a f_420_3411 ?_
      refine w_a f_420_3413 ?_
      refine i_m (fun h => ?_) (fun h => ?_) h
      · refine w_a f_420_3419 ?_
        exact w_n (ks := [0, 1, 2, 3, 4]) rfl h
      · refine w_a f_420_3417 ?_
        refine w_a f_420_3418 ?_
        exact h
    · refine w_a f_420_3419 ?_
      exact w_n (ks := [0, 1, 2, 3, 4]) rfl h
  · refine w_a f_420_3401 ?_
    refine w_a f_420_3402 ?_
    exact h
set_option maxRecDepth 10000 in
set_option maxHeartbeats 4000000 in
theorem s_420_3422 {Lx : Nat} {I : Mi} {L : Ml} {e : Nat} {Q : Kq} {x4 : Int32} (h :
    (inb (x4 + (Int32.ofInt 1)) Lx (
     (inb (x4 + (Int32.ofInt 2)) Lx (
      (if (I 0 ((x4 + (Int32.ofInt 2)).toNatClampNeg)) = 0 then
       Wp 399 0 [(0, .ref 1), (1, .int (I 0 ((x4 + (Int32.ofInt 1)).toNatClampNeg))), (2, .int (Int32.ofInt 0)), (3, .ref 70)] [] (gE Lx) I L e (kcp (Wp 420) 420 3444 0 [(0, .ref 0), (1, .ref 1), (2, .ref 58), (3, .ref 70), (4, .int x4)] 71 [] Q)
      else
       Wp 399 0 [(0, .ref 1), (1, .int (I 0 ((x4 + (Int32.ofInt 1)).toNatClampNeg))), (2, .int (Int32.ofInt 1)), (3, .ref 70)] [] (gE Lx) I L e (kcp (Wp 420) 420 3444 0 [(0, .ref 0), (1, .ref 1), (2, .ref 58), (3, .ref 70), (4, .int x4)] 71 [] Q)))
     False))
    False)) :
    Wp 420 3422 [(0, .ref 0), (1, .ref 1), (2, .ref 58), (3, .ref 70), (4, .int x4)] [] (gE Lx) I L e Q := by
  refine w_a f_420_3422 ?_
  refine w_a f_420_3423 ?_
  refine w_a f_420_3424 ?_
  refine w_a f_420_3426 ?_
  refine w_a f_420_3427 ?_
  refine w_a f_420_3428 ?_
  refine n_m (fun h => ?_) h
  refine w_a f_420_3429 ?_
  refine w_a f_420_3430 ?_
  refine w_a f_420_3432 ?_
  refine w_a f_420_3433 ?_
  refine w_a f_420_3434 ?_
  refine n_m (fun h => ?_) h
  refine w_a f_420_3435 ?_
  refine i_m (fun h => ?_) (fun h => ?_) h
  · refine w_a f_420_3442 ?_
    refine w_a f_420_3443 ?_
    exact w_c (ks := [0, 1, 2, 3, 4]) f_420_3444 rfl rfl h
  · refine w_a f_420_3438 ?_
    refine w_a f_420_3439 ?_
    refine w_a f_420_3443 ?_
    exact w_c (ks := [0, 1, 2, 3, 4]) f_420_3444 rfl rfl h
set_option maxRecDepth 10000 in
set_option maxHeartbeats 4000000 in
theorem s_420_3447 {Lx : Nat} {I : Mi} {L : Ml} {e : Nat} {Q : Kq} {x4 : Int32} {r : Int32} (h :
    (inb (x4 + (Int32.ofInt 1)) Lx (
     (inb (x4 + (Int32.ofInt 2)) Lx (
      (if (I 0 ((x4 + (Int32.ofInt 2)).toNatClampNeg)) = 0 then
       Wp 303 0 [(0, .ref 58), (1, .int (I 0 ((x4 + (Int32.ofInt 1)).toNatClampNeg))), (2, .int (Int32.ofInt 0))] [] (gE Lx) I L e (kcp (Wp 420) 420 3470 0 [(0, .ref 0), (1, .ref 1), (2, .ref 58), (3, .ref 70), (4, .int x4), (5, .int r)] 71 [] Q)
      else
       Wp 303 0 [(0, .ref 58), (1, .int (I 0 ((x4 + (Int32.ofInt 1)).toNatClampNeg))), (2, .int (Int32.ofInt 1))] [] (gE Lx) I L e (kcp (Wp 420) 420 3470 0 [(0, .ref 0), (1, .ref 1), (2, .ref 58), (3, .ref 70), (4, .int x4), (5, .int r)] 71 [] Q)))
     False))
    False)) :
    Wp 420 3447 [(0, .ref 0), (1, .ref 1), (2, .ref 58), (3, .ref 70), (4, .int x4)] [.int r] (gE Lx) I L e Q := by
  refine w_a f_420_3447 ?_
  refine w_a (ls := [(5, .int r), (0, .ref 0), (1, .ref 1), (2, .ref 58), (3, .ref 70), (4, .int x4)]) f_420_3449 ?_
  refine w_a f_420_3450 ?_
  refine w_a f_420_3451 ?_
  refine w_a f_420_3453 ?_
  refine w_a f_420_3454 ?_
  refine w_a f_420_3455 ?_
  refine n_m (fun h => ?_) h
  refine w_a f_420_3456 ?_
  refine w_a f_420_3457 ?_
  refine w_a f_420_3459 ?_
  refine w_a f_420_3460 ?_
  refine w_a f_420_3461 ?_
  refine n_m (fun h => ?_) h
  refine w_a f_420_3462 ?_
  refine i_m (fun h => ?_) (fun h => ?_) h
  · refine w_a f_420_3469 ?_
    exact w_c (ks := [0, 1, 2, 3, 4, 5]) f_420_3470 rfl rfl h
  · refine w_a f_420_3465 ?_
    refine w_a f_420_3466 ?_
    exact w_c (ks := [0, 1, 2, 3, 4, 5]) f_420_3470 rfl rfl h
set_option maxRecDepth 10000 in
set_option maxHeartbeats 4000000 in
theorem s_420_3473 {Lx : Nat} {I : Mi} {L : Ml} {e : Nat} {Q : Kq} {x4 : Int32} {x5 : Int32} {rl : Int64} (h :
    (if (I 58 0) = x5 then
     (if x5 = 0 then
      (if (L 70 0) = rl then
       Wp 420 4917 [(0, .ref 0), (1, .ref 1), (2, .ref 58), (3, .ref 70), (4, .int x4)] [] (gE Lx) I L e Q
      else
       Q (.inl (some (.int (Int32.ofInt 0)))) (gE Lx) I L e)
     else
      Wp 420 4917 [(0, .ref 0), (1, .ref 1), (2, .ref 58), (3, .ref 70), (4, .int x4)] [] (gE Lx) I L e Q)
    else
     Q (.inl (some (.int (Int32.ofInt 0)))) (gE Lx) I L e)) :
    Wp 420 3473 [(0, .ref 0), (1, .ref 1), (2, .ref 58), (3, .ref 70), (4, .int x4), (5, .int x5)] [.long rl] (gE Lx) I L e Q := by
  refine w_a f_420_3473 ?_
  refine w_a (ls := [(6, .long rl), (0, .ref 0), (1, .ref 1), (2, .ref 58), (3, .ref 70), (4, .int x4), (5, .int x5)]) f_420_3475 ?_
  refine w_a f_420_3476 ?_
  refine w_a (ls := [(0, .ref 58)]) f_212_0 ?_
  refine w_a f_212_1 ?_
  refine w_a f_212_4 ?_
  refine w_a (ls := [(6, .long rl), (0, .ref 0), (1, .ref 1), (2, .ref 58), (3, .ref 70), (4, .int x4), (5, .int x5)]) f_420_3479 ?_
  refine w_a f_420_3481 ?_
  refine i_m (fun h => ?_) (fun h => ?_) h
  · refine w_a f_420_3486 ?_
    refine w_a f_420_3488 ?_
    refine i_m (fun h => ?_) (fun h => ?_) h
    · refine w_a f_420_3491 ?_
      refine w_a f_420_3492 ?_
      refine w_a f_420_3493 ?_
      refine w_a f_420_3494 ?_
      refine w_a f_420_3496 ?_
      refine i_m (fun h => ?_) (fun h => ?_) h
      · refine w_a f_420_3502 ?_
        exact w_n (ks := [0, 1, 2, 3, 4]) rfl h
      · refine w_a f_420_3500 ?_
        refine w_a f_420_3501 ?_
        exact h
    · refine w_a f_420_3502 ?_
      exact w_n (ks := [0, 1, 2, 3, 4]) rfl h
  · refine w_a f_420_3484 ?_
    refine w_a f_420_3485 ?_
    exact h
set_option maxRecDepth 10000 in
set_option maxHeartbeats 4000000 in
theorem s_420_3505 {Lx : Nat} {I : Mi} {L : Ml} {e : Nat} {Q : Kq} {x4 : Int32} (h :
    (inb (x4 + (Int32.ofInt 1)) Lx (
     Wp 400 0 [(0, .ref 1), (1, .int (I 0 ((x4 + (Int32.ofInt 1)).toNatClampNeg))), (2, .ref 70)] [] (gE Lx) I L e (kcp (Wp 420) 420 3513 0 [(0, .ref 0), (1, .ref 1), (2, .ref 58), (3, .ref 70), (4, .int x4)] 71 [] Q))
    False)) :
    Wp 420 3505 [(0, .ref 0), (1, .ref 1), (2, .ref 58), (3, .ref 70), (4, .int x4)] [] (gE Lx) I L e Q := by
  refine w_a f_420_3505 ?_
  refine w_a f_420_3506 ?_
  refine w_a f_420_3507 ?_
  refine w_a f_420_3509 ?_
  refine w_a f_420_3510 ?_
  refine w_a f_420_3511 ?_
  refine n_m (fun h => ?_) h
  refine w_a f_420_3512 ?_
  exact w_c (ks := [0, 1, 2, 3, 4]) f_420_3513 rfl rfl h
set_option maxRecDepth 10000 in
set_option maxHeartbeats 4000000 in
theorem s_420_3516 {Lx : Nat} {I : Mi} {L : Ml} {e : Nat} {Q : Kq} {x4 : Int32} {r : Int32} (h :
    (inb (x4 + (Int32.ofInt 1)) Lx (
     Wp 304 0 [(0, .ref 58), (1, .int (I 0 ((x4 + (Int32.ofInt 1)).toNatClampNeg)))] [] (gE Lx) I L e (kcp (Wp 420) 420 3525 0 [(0, .ref 0), (1, .ref 1), (2, .ref 58), (3, .ref 70), (4, .int x4), (5, .int r)] 71 [] Q))
    False)) :
    Wp 420 3516 [(0, .ref 0), (1, .ref 1), (2, .ref 58), (3, .ref 70), (4, .int x4)] [.int r] (gE Lx) I L e Q := by
  refine w_a f_420_3516 ?_
  refine w_a (ls := [(5, .int r), (0, .ref 0), (1, .ref 1), (2, .ref 58), (3, .ref 70), (4, .int x4)]) f_420_3518 ?_
  refine w_a f_420_3519 ?_
  refine w_a f_420_3520 ?_
  refine w_a f_420_3522 ?_
  refine w_a f_420_3523 ?_
  refine w_a f_420_3524 ?_
  refine n_m (fun h => ?_) h
  exact w_c (ks := [0, 1, 2, 3, 4, 5]) f_420_3525 rfl rfl h
set_option maxRecDepth 10000 in
set_option maxHeartbeats 4000000 in
theorem s_420_3528 {Lx : Nat} {I : Mi} {L : Ml} {e : Nat} {Q : Kq} {x4 : Int32} {x5 : Int32} {r : Int32} (h :
    (if (I 58 0) = x5 then
     (if x5 = 0 then
      (if r = 0 then
       (if (L 70 0) = (Int64.ofInt 0) then
        Wp 420 4917 [(0, .ref 0), (1, .ref 1), (2, .ref 58), (3, .ref 70), (4, .int x4)] [] (gE Lx) I L e Q
       else
        Q (.inl (some (.int (Int32.ofInt 0)))) (gE Lx) I L e)
      else
       (if (L 70 0) = (Int64.ofInt 1) then
        Wp 420 4917 [(0, .ref 0), (1, .ref 1), (2, .ref 58), (3, .ref 70), (4, .int x4)] [] (gE Lx) I L e Q
       else
        Q (.inl (some (.int (Int32.ofInt 0)))) (gE Lx) I L e))
     else
      Wp 420 4917 [(0, .ref 0), (1, .ref 1), (2, .ref 58), (3, .ref 70), (4, .int x4)] [] (gE Lx) I L e Q)
    else
     Q (.inl (some (.int (Int32.ofInt 0)))) (gE Lx) I L e)) :
    Wp 420 3528 [(0, .ref 0), (1, .ref 1), (2, .ref 58), (3, .ref 70), (4, .int x4), (5, .int x5)] [.int r] (gE Lx) I L e Q := by
  refine w_a f_420_3528 ?_
  refine w_a (ls := [(6, .int r), (0, .ref 0), (1, .ref 1), (2, .ref 58), (3, .ref 70), (4, .int x4), (5, .int x5)]) f_420_3530 ?_
  refine w_a f_420_3531 ?_
  refine w_a (ls := [(0, .ref 58)]) f_212_0 ?_
  refine w_a f_212_1 ?_
  refine w_a f_212_4 ?_
  refine w_a (ls := [(6, .int r), (0, .ref 0), (1, .ref 1), (2, .ref 58), (3, .ref 70), (4, .int x4), (5, .int x5)]) f_420_3534 ?_
  refine w_a f_420_3536 ?_
  refine i_m (fun h => ?_) (fun h => ?_) h
  · refine w_a f_420_3541 ?_
    refine w_a f_420_3543 ?_
    refine i_m (fun h => ?_) (fun h => ?_) h
    · refine w_a f_420_3546 ?_
      refine w_a f_420_3547 ?_
      refine w_a f_420_3548 ?_
      refine w_a f_420_3549 ?_
      refine w_a f_420_3551 ?_
      refine i_m (fun h => ?_) (fun h => ?_) h
      · refine w_a f_420_3558 ?_
        refine w_a f_420_3559 ?_
        refine i_m (fun h => ?_) (fun h => ?_) h
        · refine w_a f_420_3565 ?_
          exact w_n (ks := [0, 1, 2, 3, 4]) rfl h
        · refine w_a f_420_3563 ?_
          refine w_a f_420_3564 ?_
          exact h
      · refine w_a f_420_3554 ?_
        refine w_a f_420_3555 ?_
        refine w_a f_420_3559 ?_
        refine i_m (fun h => ?_) (fun h => ?_) h
        · refine w_a f_420_3565 ?_
          exact w_n (ks := [0, 1, 2, 3, 4]) rfl h
        · refine w_a f_420_3563 ?_
          refine w_a f_420_3564 ?_
          exact h
    · refine w_a f_420_3565 ?_
      exact w_n (ks := [0, 1, 2, 3, 4]) rfl h
  · refine w_a f_420_3539 ?_
    refine w_a f_420_3540 ?_
    exact h
set_option maxRecDepth 10000 in
set_option maxHeartbeats 4000000 in
theorem s_420_3568 {Lx : Nat} {I : Mi} {L : Ml} {e : Nat} {Q : Kq} {x4 : Int32} (h :
    (inb (x4 + (Int32.ofInt 1)) Lx (
     (inb (x4 + (Int32.ofInt 2)) Lx (
      (inb (x4 + (Int32.ofInt 3)) Lx (
       Wp 401 0 [(0, .ref 1), (1, .int (I 0 ((x4 + (Int32.ofInt 1)).toNatClampNeg))), (2, .int (I 0 ((x4 + (Int32.ofInt 2)).toNatClampNeg))), (3, .int (I 0 ((x4 + (Int32.ofInt 3)).toNatClampNeg))), (4, .ref 70)] [] (gE Lx) I L e (kcp (Wp 420) 420 3588 0 [(0, .ref 0), (1, .ref 1), (2, .ref 58), (3, .ref 70), (4, .int x4)] 71 [] Q))
      False))
     False))
    False)) :
    Wp 420 3568 [(0, .ref 0), (1, .ref 1), (2, .ref 58), (3, .ref 70), (4, .int x4)] [] (gE Lx) I L e Q := by
  refine w_a f_420_3568 ?_
  refine w_a f_420_3569 ?_
  refine w_a f_420_3570 ?_
  refine w_a f_420_3572 ?_
  refine w_a f_420_3573 ?_
  refine w_a f_420_3574 ?_
  refine n_m (fun h => ?_) h
  refine w_a f_420_3575 ?_
  refine w_a f_420_3576 ?_
  refine w_a f_420_3578 ?_
  refine w_a f_420_3579 ?_
  refine w_a f_420_3580 ?_
  refine n_m (fun h => ?_) h
  refine w_a f_420_3581 ?_
  refine w_a f_420_3582 ?_
  refine w_a f_420_3584 ?_
  refine w_a f_420_3585 ?_
  refine w_a f_420_3586 ?_
  refine n_m (fun h => ?_) h
  refine w_a f_420_3587 ?_
  exact w_c (ks := [0, 1, 2, 3, 4]) f_420_3588 rfl rfl h
set_option maxRecDepth 10000 in
set_option maxHeartbeats 4000000 in
theorem s_420_3591 {Lx : Nat} {I : Mi} {L : Ml} {e : Nat} {Q : Kq} {x4 : Int32} {r : Int32} (h :
    (inb (x4 + (Int32.ofInt 1)) Lx (
     (inb (x4 + (Int32.ofInt 2)) Lx (
      (inb (x4 + (Int32.ofInt 3)) Lx (
       Wp 322 0 [(0, .ref 58), (1, .int (I 0 ((x4 + (Int32.ofInt 1)).toNatClampNeg))), (2, .int (I 0 ((x4 + (Int32.ofInt 2)).toNatClampNeg))), (3, .int (I 0 ((x4 + (Int32.ofInt 3)).toNatClampNeg)))] [] (gE Lx) I L e (kcp (Wp 420) 420 3612 0 [(0, .ref 0), (1, .ref 1), (2, .ref 58), (3, .ref 70), (4, .int x4), (5, .int r)] 71 [] Q))
      False))
     False))
    False)) :
    Wp 420 3591 [(0, .ref 0), (1, .ref 1), (2, .ref 58), (3, .ref 70), (4, .int x4)] [.int r] (gE Lx) I L e Q := by
  refine w_a f_420_3591 ?_
  refine w_a (ls := [(5, .int r), (0, .ref 0), (1, .ref 1), (2, .ref 58), (3, .ref 70), (4, .int x4)]) f_420_3593 ?_
  refine w_a f_420_3594 ?_
  refine w_a f_420_3595 ?_
  refine w_a f_420_3597 ?_
  refine w_a f_420_3598 ?_
  refine w_a f_420_3599 ?_
  refine n_m (fun h => ?_) h
  refine w_a f_420_3600 ?_
  refine w_a f_420_3601 ?_
  refine w_a f_420_3603 ?_
  refine w_a f_420_3604 ?_
  refine w_a f_420_3605 ?_
  refine n_m (fun h => ?_) h
  refine w_a f_420_3606 ?_
  refine w_a f_420_3607 ?_
  refine w_a f_420_3609 ?_
  refine w_a f_420_3610 ?_
  refine w_a f_420_3611 ?_
  refine n_m (fun h => ?_) h
  exact w_c (ks := [0, 1, 2, 3, 4, 5]) f_420_3612 rfl rfl h
set_option maxRecDepth 10000 in
set_option maxHeartbeats 4000000 in
theorem s_420_3615 {Lx : Nat} {I : Mi} {L : Ml} {e : Nat} {Q : Kq} {x4 : Int32} {x5 : Int32} {r : Int32} (h :
    (if (I 58 0) = x5 then
     (if x5 = 0 then
      (if (L 70 0) = r.toInt64 then
       Wp 420 4917 [(0, .ref 0), (1, .ref 1), (2, .ref 58), (3, .ref 70), (4, .int x4)] [] (gE Lx) I L e Q
      else
       Q (.inl (some (.int (Int32.ofInt 0)))) (gE Lx) I L e)
     else
      Wp 420 4917 [(0, .ref 0), (1, .ref 1), (2, .ref 58), (3, .ref 70), (4, .int x4)] [] (gE Lx) I L e Q)
    else
     Q (.inl (some (.int (Int32.ofInt 0)))) (gE Lx) I L e)) :
    Wp 420 3615 [(0, .ref 0), (1, .ref 1), (2, .ref 58), (3, .ref 70), (4, .int x4), (5, .int x5)] [.int r] (gE Lx) I L e Q := by
  refine w_a f_420_3615 ?_
  refine w_a (ls := [(6, .int r), (0, .ref 0), (1, .ref 1), (2, .ref 58), (3, .ref 70), (4, .int x4), (5, .int x5)]) f_420_3617 ?_
  refine w_a f_420_3618 ?_
  refine w_a (ls := [(0, .ref 58)]) f_212_0 ?_
  refine w_a f_212_1 ?_
  refine w_a f_212_4 ?_
  refine w_a (ls := [(6, .int r), (0, .ref 0), (1, .ref 1), (2, .ref 58), (3, .ref 70), (4, .int x4), (5, .int x5)]) f_420_3621 ?_
  refine w_a f_420_3623 ?_
  refine i_m (fun h => ?_) (fun h => ?_) h
  · refine w_a f_420_3628 ?_
    refine w_a f_420_3630 ?_
    refine i_m (fun h => ?_) (fun h => ?_) h
    · refine w_a f_420_3633 ?_
      refine w_a f_420_3634 ?_
      refine w_a f_420_3635 ?_
      refine w_a f_420_3636 ?_
      refine w_a f_420_3638 ?_
      refine w_a f_420_3639 ?_
      refine i_m (fun h => ?_) (fun h => ?_) h
      · refine w_a f_420_3645 ?_
        exact w_n (ks := [0, 1, 2, 3, 4]) rfl h
      · refine w_a f_420_3643 ?_
        refine w_a f_420_3644 ?_
        exact h
    · refine w_a f_420_3645 ?_
      exact w_n (ks := [0, 1, 2, 3, 4]) rfl h
  · refine w_a f_420_3626 ?_
    refine w_a f_420_3627 ?_
    exact h
set_option maxRecDepth 10000 in
set_option maxHeartbeats 4000000 in
theorem s_420_3648 {Lx : Nat} {I : Mi} {L : Ml} {e : Nat} {Q : Kq} {x4 : Int32} (h :
    (inb (x4 + (Int32.ofInt 1)) Lx (
     (inb (x4 + (Int32.ofInt 2)) Lx (
      Wp 402 0 [(0, .ref 1), (1, .int (I 0 ((x4 + (Int32.ofInt 1)).toNatClampNeg))), (2, .int (I 0 ((x4 + (Int32.ofInt 2)).toNatClampNeg))), (3, .ref 70)] [] (gE Lx) I L e (kcp (Wp 420) 420 3662 0 [(0, .ref 0), (1, .ref 1), (2, .ref 58), (3, .ref 70), (4, .int x4)] 71 [] Q))
     False))
    False)) :
    Wp 420 3648 [(0, .ref 0), (1, .ref 1), (2, .ref 58), (3, .ref 70), (4, .int x4)] [] (gE Lx) I L e Q := by
  refine w_a f_420_3648 ?_
  refine w_a f_420_3649 ?_
  refine w_a f_420_3650 ?_
  refine w_a f_420_3652 ?_
  refine w_a f_420_3653 ?_
  refine w_a f_420_3654 ?_
  refine n_m (fun h => ?_) h
  refine w_a f_420_3655 ?_
  refine w_a f_420_3656 ?_
  refine w_a f_420_3658 ?_
  refine w_a f_420_3659 ?_
  refine w_a f_420_3660 ?_
  refine n_m (fun h => ?_) h
  refine w_a f_420_3661 ?_
  exact w_c (ks := [0, 1, 2, 3, 4]) f_420_3662 rfl rfl h
set_option maxRecDepth 10000 in
set_option maxHeartbeats 4000000 in
theorem s_420_3665 {Lx : Nat} {I : Mi} {L : Ml} {e : Nat} {Q : Kq} {x4 : Int32} {r : Int32} (h :
    (inb (x4 + (Int32.ofInt 1)) Lx (
     (inb (x4 + (Int32.ofInt 2)) Lx (
      Wp 323 0 [(0, .ref 58), (1, .int (I 0 ((x4 + (Int32.ofInt 1)).toNatClampNeg))), (2, .int (I 0 ((x4 + (Int32.ofInt 2)).toNatClampNeg)))] [] (gE Lx) I L e (kcp (Wp 420) 420 3680 0 [(0, .ref 0), (1, .ref 1), (2, .ref 58), (3, .ref 70), (4, .int x4), (5, .int r)] 71 [] Q))
     False))
    False)) :
    Wp 420 3665 [(0, .ref 0), (1, .ref 1), (2, .ref 58), (3, .ref 70), (4, .int x4)] [.int r] (gE Lx) I L e Q := by
  refine w_a f_420_3665 ?_
  refine w_a (ls := [(5, .int r), (0, .ref 0), (1, .ref 1), (2, .ref 58), (3, .ref 70), (4, .int x4)]) f_420_3667 ?_
  refine w_a f_420_3668 ?_
  refine w_a f_420_3669 ?_
  refine w_a f_420_3671 ?_
  refine w_a f_420_3672 ?_
  refine w_a f_420_3673 ?_
  refine n_m (fun h => ?_) h
  refine w_a f_420_3674 ?_
  refine w_a f_420_3675 ?_
  refine w_a f_420_3677 ?_
  refine w_a f_420_3678 ?_
  refine w_a f_420_3679 ?_
  refine n_m (fun h => ?_) h
  exact w_c (ks := [0, 1, 2, 3, 4, 5]) f_420_3680 rfl rfl h
set_option maxRecDepth 10000 in
set_option maxHeartbeats 4000000 in
theorem s_420_3683 {Lx : Nat} {I : Mi} {L : Ml} {e : Nat} {Q : Kq} {x4 : Int32} {x5 : Int32} {r : Int32} (h :
    (if (I 58 0) = x5 then
     (if x5 = 0 then
      (if (L 70 0) = r.toInt64 then
       Wp 420 4917 [(0, .ref 0), (1, .ref 1), (2, .ref 58), (3, .ref 70), (4, .int x4)] [] (gE Lx) I L e Q
      else
       Q (.inl (some (.int (Int32.ofInt 0)))) (gE Lx) I L e)
     else
      Wp 420 4917 [(0, .ref 0), (1, .ref 1), (2, .ref 58), (3, .ref 70), (4, .int x4)] [] (gE Lx) I L e Q)
    else
     Q (.inl (some (.int (Int32.ofInt 0)))) (gE Lx) I L e)) :
    Wp 420 3683 [(0, .ref 0), (1, .ref 1), (2, .ref 58), (3, .ref 70), (4, .int x4), (5, .int x5)] [.int r] (gE Lx) I L e Q := by
  refine w_a f_420_3683 ?_
  refine w_a (ls := [(6, .int r), (0, .ref 0), (1, .ref 1), (2, .ref 58), (3, .ref 70), (4, .int x4), (5, .int x5)]) f_420_3685 ?_
  refine w_a f_420_3686 ?_
  refine w_a (ls := [(0, .ref 58)]) f_212_0 ?_
  refine w_a f_212_1 ?_
  refine w_a f_212_4 ?_
  refine w_a (ls := [(6, .int r), (0, .ref 0), (1, .ref 1), (2, .ref 58), (3, .ref 70), (4, .int x4), (5, .int x5)]) f_420_3689 ?_
  refine w_a f_420_3691 ?_
  refine i_m (fun h => ?_) (fun h => ?_) h
  · refine w_a f_420_3696 ?_
    refine w_a f_420_3698 ?_
    refine i_m (fun h => ?_) (fun h => ?_) h
    · refine w_a f_420_3701 ?_
      refine w_a f_420_3702 ?_
      refine w_a f_420_3703 ?_
      refine w_a f_420_3704 ?_
      refine w_a f_420_3706 ?_
      refine w_a f_420_3707 ?_
      refine i_m (fun h => ?_) (fun h => ?_) h
      · refine w_a f_420_3713 ?_
        exact w_n (ks := [0, 1, 2, 3, 4]) rfl h
      · refine w_a f_420_3711 ?_
        refine w_a f_420_3712 ?_
        exact h
    · refine w_a f_420_3713 ?_
      exact w_n (ks := [0, 1, 2, 3, 4]) rfl h
  · refine w_a f_420_3694 ?_
    refine w_a f_420_3695 ?_
    exact h
set_option maxRecDepth 10000 in
set_option maxHeartbeats 4000000 in
theorem s_420_3716 {Lx : Nat} {I : Mi} {L : Ml} {e : Nat} {Q : Kq} {x4 : Int32} (h :
    Wp 403 0 [(0, .ref 1)] [] (gE Lx) I L e (kcp (Wp 420) 420 3717 0 [(0, .ref 0), (1, .ref 1), (2, .ref 58), (3, .ref 70), (4, .int x4)] 71 [] Q)) :
    Wp 420 3716 [(0, .ref 0), (1, .ref 1), (2, .ref 58), (3, .ref 70), (4, .int x4)] [] (gE Lx) I L e Q := by
  refine w_a f_420_3716 ?_
  exact w_c (ks := [0, 1, 2, 3, 4]) f_420_3717 rfl rfl h
set_option maxRecDepth 10000 in
set_option maxHeartbeats 4000000 in
theorem s_420_3720 {Lx : Nat} {I : Mi} {L : Ml} {e : Nat} {Q : Kq} {x4 : Int32} {r : Int32} (h :
    Wp 336 0 [(0, .ref 58)] [] (gE Lx) I L e (kcp (Wp 420) 420 3723 0 [(0, .ref 0), (1, .ref 1), (2, .ref 58), (3, .ref 70), (4, .int x4), (5, .int r)] 71 [] Q)) :
    Wp 420 3720 [(0, .ref 0), (1, .ref 1), (2, .ref 58), (3, .ref 70), (4, .int x4)] [.int r] (gE Lx) I L e Q := by
  refine w_a f_420_3720 ?_
  refine w_a (ls := [(5, .int r), (0, .ref 0), (1, .ref 1), (2, .ref 58), (3, .ref 70), (4, .int x4)]) f_420_3722 ?_
  exact w_c (ks := [0, 1, 2, 3, 4, 5]) f_420_3723 rfl rfl h
set_option maxRecDepth 10000 in
set_option maxHeartbeats 4000000 in
theorem s_420_3726 {Lx : Nat} {I : Mi} {L : Ml} {e : Nat} {Q : Kq} {x4 : Int32} {x5 : Int32} {r : Int32} (h :
    (if (I 58 0) = x5 then
     Wp 420 4917 [(0, .ref 0), (1, .ref 1), (2, .ref 58), (3, .ref 70), (4, .int x4)] [] (gE Lx) I L e Q
    else
     Q (.inl (some (.int (Int32.ofInt 0)))) (gE Lx) I L e)) :
    Wp 420 3726 [(0, .ref 0), (1, .ref 1), (2, .ref 58), (3, .ref 70), (4, .int x4), (5, .int x5)] [.int r] (gE Lx) I L e Q := by
  refine w_a f_420_3726 ?_
  refine w_a f_420_3727 ?_
  refine w_a f_420_3728 ?_
  refine w_a (ls := [(0, .ref 58)]) f_212_0 ?_
  refine w_a f_212_1 ?_
  refine w_a f_212_4 ?_
  refine w_a (ls := [(0, .ref 0), (1, .ref 1), (2, .ref 58), (3, .ref 70), (4, .int x4), (5, .int x5)]) f_420_3731 ?_
  refine w_a f_420_3733 ?_
  refine i_m (fun h => ?_) (fun h => ?_) h
  · refine w_a f_420_3738 ?_
    exact w_n (ks := [0, 1, 2, 3, 4]) rfl h
  · refine w_a f_420_3736 ?_
    refine w_a f_420_3737 ?_
    exact h
set_option maxRecDepth 10000 in
set_option maxHeartbeats 4000000 in
theorem s_420_3741 {Lx : Nat} {I : Mi} {L : Ml} {e : Nat} {Q : Kq} {x4 : Int32} (h :
    (inb (x4 + (Int32.ofInt 1)) Lx (
     (inb (x4 + (Int32.ofInt 2)) Lx (
      Wp 404 0 [(0, .ref 1), (1, .int (I 0 ((x4 + (Int32.ofInt 1)).toNatClampNeg))), (2, .int (I 0 ((x4 + (Int32.ofInt 2)).toNatClampNeg))), (3, .ref 70)] [] (gE Lx) I L e (kcp (Wp 420) 420 3755 0 [(0, .ref 0), (1, .ref 1), (2, .ref 58), (3, .ref 70), (4, .int x4)] 71 [] Q))
     False))
    False)) :
    Wp 420 3741 [(0, .ref 0), (1, .ref 1), (2, .ref 58), (3, .ref 70), (4, .int x4)] [] (gE Lx) I L e Q := by
  refine w_a f_420_3741 ?_
  refine w_a f_420_3742 ?_
  refine w_a f_420_3743 ?_
  refine w_a f_420_3745 ?_
  refine w_a f_420_3746 ?_
  refine w_a f_420_3747 ?_
  refine n_m (fun h => ?_) h
  refine w_a f_420_3748 ?_
  refine w_a f_420_3749 ?_
  refine w_a f_420_3751 ?_
  refine w_a f_420_3752 ?_
  refine w_a f_420_3753 ?_
  refine n_m (fun h => ?_) h
  refine w_a f_420_3754 ?_
  exact w_c (ks := [0, 1, 2, 3, 4]) f_420_3755 rfl rfl h
set_option maxRecDepth 10000 in
set_option maxHeartbeats 4000000 in
theorem s_420_3758 {Lx : Nat} {I : Mi} {L : Ml} {e : Nat} {Q : Kq} {x4 : Int32} {r : Int32} (h :
    (inb (x4 + (Int32.ofInt 1)) Lx (
     (inb (x4 + (Int32.ofInt 2)) Lx (
      Wp 309 0 [(0, .ref 58), (1, .int (I 0 ((x4 + (Int32.ofInt 1)).toNatClampNeg))), (2, .int (I 0 ((x4 + (Int32.ofInt 2)).toNatClampNeg)))] [] (gE Lx) I L e (kcp (Wp 420) 420 3773 0 [(0, .ref 0), (1, .ref 1), (2, .ref 58), (3, .ref 70), (4, .int x4), (5, .int r)] 71 [] Q))
     False))
    False)) :
    Wp 420 3758 [(0, .ref 0), (1, .ref 1), (2, .ref 58), (3, .ref 70), (4, .int x4)] [.int r] (gE Lx) I L e Q := by
  refine w_a f_420_3758 ?_
  refine w_a (ls := [(5, .int r), (0, .ref 0), (1, .ref 1), (2, .ref 58), (3, .ref 70), (4, .int x4)]) f_420_3760 ?_
  refine w_a f_420_3761 ?_
  refine w_a f_420_3762 ?_
  refine w_a f_420_3764 ?_
  refine w_a f_420_3765 ?_
  refine w_a f_420_3766 ?_
  refine n_m (fun h => ?_) h
  refine w_a f_420_3767 ?_
  refine w_a f_420_3768 ?_
  refine w_a f_420_3770 ?_
  refine w_a f_420_3771 ?_
  refine w_a f_420_3772 ?_
  refine n_m (fun h => ?_) h
  exact w_c (ks := [0, 1, 2, 3, 4, 5]) f_420_3773 rfl rfl h
set_option maxRecDepth 10000 in
set_option maxHeartbeats 4000000 in
theorem s_420_3776 {Lx : Nat} {I : Mi} {L : Ml} {e : Nat} {Q : Kq} {x4 : Int32} {x5 : Int32} {r : Int32} (h :
    (if (I 58 0) = x5 then
     (if x5 = 0 then
      (if (L 70 0) = r.toInt64 then
       Wp 420 4917 [(0, .ref 0), (1, .ref 1), (2, .ref 58), (3, .ref 70), (4, .int x4)] [] (gE Lx) I L e Q
      else
       Q (.inl (some (.int (Int32.ofInt 0)))) (gE Lx) I L e)
     else
      Wp 420 4917 [(0, .ref 0), (1, .ref 1), (2, .ref 58), (3, .ref 70), (4, .int x4)] [] (gE Lx) I L e Q)
    else
     Q (.inl (some (.int (Int32.ofInt 0)))) (gE Lx) I L e)) :
    Wp 420 3776 [(0, .ref 0), (1, .ref 1), (2, .ref 58), (3, .ref 70), (4, .int x4), (5, .int x5)] [.int r] (gE Lx) I L e Q := by
  refine w_a f_420_3776 ?_
  refine w_a (ls := [(6, .int r), (0, .ref 0), (1, .ref 1), (2, .ref 58), (3, .ref 70), (4, .int x4), (5, .int x5)]) f_420_3778 ?_
  refine w_a f_420_3779 ?_
  refine w_a (ls := [(0, .ref 58)]) f_212_0 ?_
  refine w_a f_212_1 ?_
  refine w_a f_212_4 ?_
  refine w_a (ls := [(6, .int r), (0, .ref 0), (1, .ref 1), (2, .ref 58), (3, .ref 70), (4, .int x4), (5, .int x5)]) f_420_3782 ?_
  refine w_a f_420_3784 ?_
  refine i_m (fun h => ?_) (fun h => ?_) h
  · refine w_a f_420_3789 ?_
    refine w_a f_420_3791 ?_
    refine i_m (fun h => ?_) (fun h => ?_) h
    · refine w_a f_420_3794 ?_
      refine w_a f_420_3795 ?_
      refine w_a f_420_3796 ?_
      refine w_a f_420_3797 ?_
      refine w_a f_420_3799 ?_
      refine w_a f_420_3800 ?_
      refine i_m (fun h => ?_) (fun h => ?_) h
      · refine w_a f_420_3806 ?_
        exact w_n (ks := [0, 1, 2, 3, 4]) rfl h
      · refine w_a f_420_3804 ?_
        refine w_a f_420_3805 ?_
        exact h
    · refine w_a f_420_3806 ?_
      exact w_n (ks := [0, 1, 2, 3, 4]) rfl h
  · refine w_a f_420_3787 ?_
    refine w_a f_420_3788 ?_
    exact h
set_option maxRecDepth 10000 in
set_option maxHeartbeats 4000000 in
theorem s_420_3809 {Lx : Nat} {I : Mi} {L : Ml} {e : Nat} {Q : Kq} {x4 : Int32} (h :
    (inb (x4 + (Int32.ofInt 1)) Lx (
     (inb (x4 + (Int32.ofInt 2)) Lx (
      (if (I 0 ((x4 + (Int32.ofInt 2)).toNatClampNeg)) = 0 then
       (inb (x4 + (Int32.ofInt 3)) Lx (
        (inb (x4 + (Int32.ofInt 4)) Lx (
         (inb (x4 + (Int32.ofInt 5)) Lx (
          (inb (x4 + (Int32.ofInt 6)) Lx (
           Wp 405 0 [(0, .ref 1), (1, .int (I 0 ((x4 + (Int32.ofInt 1)).toNatClampNeg))), (2, .int (Int32.ofInt 0)), (3, .int (I 0 ((x4 + (Int32.ofInt 3)).toNatClampNeg))), (4, .int (I 0 ((x4 + (Int32.ofInt 4)).toNatClampNeg))), (5, .int (I 0 ((x4 + (Int32.ofInt 5)).toNatClampNeg))), (6, .int (I 0 ((x4 + (Int32.ofInt 6)).toNatClampNeg))), (7, .ref 70)] [] (gE Lx) I L e (kcp (Wp 420) 420 3856 0 [(0, .ref 0), (1, .ref 1), (2, .ref 58), (3, .ref 70), (4, .int x4)] 71 [] Q))
          False))
         False))
        False))
       False)
      else
       (inb (x4 + (Int32.ofInt 3)) Lx (
        (inb (x4 + (Int32.ofInt 4)) Lx (
         (inb (x4 + (Int32.ofInt 5)) Lx (
          (inb (x4 + (Int32.ofInt 6)) Lx (
           Wp 405 0 [(0, .ref 1), (1, .int (I 0 ((x4 + (Int32.ofInt 1)).toNatClampNeg))), (2, .int (Int32.ofInt 1)), (3, .int (I 0 ((x4 + (Int32.ofInt 3)).toNatClampNeg))), (4, .int (I 0 ((x4 + (Int32.ofInt 4)).toNatClampNeg))), (5, .int (I 0 ((x4 + (Int32.ofInt 5)).toNatClampNeg))), (6, .int (I 0 ((x4 + (Int32.ofInt 6)).toNatClampNeg))), (7, .ref 70)] [] (gE Lx) I L e (kcp (Wp 420) 420 3856 0 [(0, .ref 0), (1, .ref 1), (2, .ref 58), (3, .ref 70), (4, .int x4)] 71 [] Q))
          False))
         False))
        False))
       False)))
     False))
    False)) :
    Wp 420 3809 [(0, .ref 0), (1, .ref 1), (2, .ref 58), (3, .ref 70), (4, .int x4)] [] (gE Lx) I L e Q := by
  refine w_a f_420_3809 ?_
  refine w_a f_420_3810 ?_
  refine w_a f_420_3811 ?_
  refine w_a f_420_3813 ?_
  refine w_a f_420_3814 ?_
  refine w_a f_420_3815 ?_
  refine n_m (fun h => ?_) h
  refine w_a f_420_3816 ?_
  refine w_a f_420_3817 ?_
  refine w_a f_420_3819 ?_
  refine w_a f_420_3820 ?_
  refine w_a f_420_3821 ?_
  refine n_m (fun h => ?_) h
  refine w_a f_420_3822 ?_
  refine i_m (fun h => ?_) (fun h => ?_) h
  · refine w_a f_420_3829 ?_
    refine w_a f_420_3830 ?_
    refine w_a f_420_3831 ?_
    refine w_a f_420_3833 ?_
    refine w_a f_420_3834 ?_
    refine w_a f_420_3835 ?_
    refine n_m (fun h => ?_) h
    refine w_a f_420_3836 ?_
    refine w_a f_420_3837 ?_
    refine w_a f_420_3839 ?_
    refine w_a f_420_3840 ?_
    refine w_a f_420_3841 ?_
    refine n_m (fun h => ?_) h
    refine w_a f_420_3842 ?_
    refine w_a f_420_3843 ?_
    refine w_a f_420_3845 ?_
    refine w_a f_420_3846 ?_
    refine w_a f_420_3847 ?_
    refine n_m (fun h => ?_) h
    refine w_a f_420_3848 ?_
    refine w_a f_420_3849 ?_
    refine w_a f_420_3851 ?_
    refine w_a f_420_3853 ?_
    refine w_a f_420_3854 ?_
    refine n_m (fun h => ?_) h
    refine w_a f_420_3855 ?_
    exact w_c (ks := [0, 1, 2, 3, 4]) f_420_3856 rfl rfl h
  · refine w_a f_420_3825 ?_
    refine w_a f_420_3826 ?_
    refine w_a f_420_3830 ?_
    refine w_a f_420_3831 ?_
    refine w_a f_420_3833 ?_
    refine w_a f_420_3834 ?_
    refine w_a f_420_3835 ?_
    refine n_m (fun h => ?_) h
    refine w_a f_420_3836 ?_
    refine w_a f_420_3837 ?_
    refine w_a f_420_3839 ?_
    refine w_a f_420_3840 ?_
    refine w_a f_420_3841 ?_
    refine n_m (fun h => ?_) h
    refine w_a f_420_3842 ?_
    refine w_a f_420_3843 ?_
    refine w_a f_420_3845 ?_
    refine w_a f_420_3846 ?_
    refine w_a f_420_3847 ?_
    refine n_m (fun h => ?_) h
    refine w_a f_420_3848 ?_
    refine w_a f_420_3849 ?_
    refine w_a f_420_3851 ?_
    refine w_a f_420_3853 ?_
    refine w_a f_420_3854 ?_
    refine n_m (fun h => ?_) h
    refine w_a f_420_3855 ?_
    exact w_c (ks := [0, 1, 2, 3, 4]) f_420_3856 rfl rfl h
set_option maxRecDepth 10000 in
set_option maxHeartbeats 4000000 in
theorem s_420_3859 {Lx : Nat} {I : Mi} {L : Ml} {e : Nat} {Q : Kq} {x4 : Int32} {r : Int32} (h :
    (inb (x4 + (Int32.ofInt 1)) Lx (
     (inb (x4 + (Int32.ofInt 2)) Lx (
      (if (I 0 ((x4 + (Int32.ofInt 2)).toNatClampNeg)) = 0 then
       (inb (x4 + (Int32.ofInt 3)) Lx (
        (inb (x4 + (Int32.ofInt 4)) Lx (
         (inb (x4 + (Int32.ofInt 5)) Lx (
          (inb (x4 + (Int32.ofInt 6)) Lx (
           Wp 288 0 [(0, .ref 58), (1, .int (I 0 ((x4 + (Int32.ofInt 1)).toNatClampNeg))), (2, .int (Int32.ofInt 0)), (3, .int (I 0 ((x4 + (Int32.ofInt 3)).toNatClampNeg))), (4, .int (I 0 ((x4 + (Int32.ofInt 4)).toNatClampNeg))), (5, .int (I 0 ((x4 + (Int32.ofInt 5)).toNatClampNeg))), (6, .int (I 0 ((x4 + (Int32.ofInt 6)).toNatClampNeg)))] [] (gE Lx) I L e (kcp (Wp 420) 420 3907 0 [(0, .ref 0), (1, .ref 1), (2, .ref 58), (3, .ref 70), (4, .int x4), (5, .int r)] 71 [] Q))
          False))
         False))
        False))
       False)
      else
       (inb (x4 + (Int32.ofInt 3)) Lx (
        (inb (x4 + (Int32.ofInt 4)) Lx (
         (inb (x4 + (Int32.ofInt 5)) Lx (
          (inb (x4 + (Int32.ofInt 6)) Lx (
           Wp 288 0 [(0, .ref 58), (1, .int (I 0 ((x4 + (Int32.ofInt 1)).toNatClampNeg))), (2, .int (Int32.ofInt 1)), (3, .int (I 0 ((x4 + (Int32.ofInt 3)).toNatClampNeg))), (4, .int (I 0 ((x4 + (Int32.ofInt 4)).toNatClampNeg))), (5, .int (I 0 ((x4 + (Int32.ofInt 5)).toNatClampNeg))), (6, .int (I 0 ((x4 + (Int32.ofInt 6)).toNatClampNeg)))] [] (gE Lx) I L e (kcp (Wp 420) 420 3907 0 [(0, .ref 0), (1, .ref 1), (2, .ref 58), (3, .ref 70), (4, .int x4), (5, .int r)] 71 [] Q))
          False))
         False))
        False))
       False)))
     False))
    False)) :
    Wp 420 3859 [(0, .ref 0), (1, .ref 1), (2, .ref 58), (3, .ref 70), (4, .int x4)] [.int r] (gE Lx) I L e Q := by
  refine w_a f_420_3859 ?_
  refine w_a (ls := [(5, .int r), (0, .ref 0), (1, .ref 1), (2, .ref 58), (3, .ref 70), (4, .int x4)]) f_420_3861 ?_
  refine w_a f_420_3862 ?_
  refine w_a f_420_3863 ?_
  refine w_a f_420_3865 ?_
  refine w_a f_420_3866 ?_
  refine w_a f_420_3867 ?_
  refine n_m (fun h => ?_) h
  refine w_a f_420_3868 ?_
  refine w_a f_420_3869 ?_
  refine w_a f_420_3871 ?_
  refine w_a f_420_3872 ?_
  refine w_a f_420_3873 ?_
  refine n_m (fun h => ?_) h
  refine w_a f_420_3874 ?_
  refine i_m (fun h => ?_) (fun h => ?_) h
  · refine w_a f_420_3881 ?_
    refine w_a f_420_3882 ?_
    refine w_a f_420_3883 ?_
    refine w_a f_420_3885 ?_
    refine w_a f_420_3886 ?_
    refine w_a f_420_3887 ?_
    refine n_m (fun h => ?_) h
    refine w_a f_420_3888 ?_
    refine w_a f_420_3889 ?_
    refine w_a f_420_3891 ?_
    refine w_a f_420_3892 ?_
    refine w_a f_420_3893 ?_
    refine n_m (fun h => ?_) h
    refine w_a f_420_3894 ?_
    refine w_a f_420_3895 ?_
    refine w_a f_420_3897 ?_
    refine w_a f_420_3898 ?_
    refine w_a f_420_3899 ?_
    refine n_m (fun h => ?_) h
    refine w_a f_420_3900 ?_
    refine w_a f_420_3901 ?_
    refine w_a f_420_3903 ?_
    refine w_a f_420_3905 ?_
    refine w_a f_420_3906 ?_
    refine n_m (fun h => ?_) h
    exact w_c (ks := [0, 1, 2, 3, 4, 5]) f_420_3907 rfl rfl h
  · refine w_a f_420_3877 ?_
    refine w_a f_420_3878 ?_
    refine w_a f_420_3882 ?_
    refine w_a f_420_3883 ?_
    refine w_a f_420_3885 ?_
    refine w_a f_420_3886 ?_
    refine w_a f_420_3887 ?_
    refine n_m (fun h => ?_) h
    refine w_a f_420_3888 ?_
    refine w_a f_420_3889 ?_
    refine w_a f_420_3891 ?_
    refine w_a f_420_3892 ?_
    refine w_a f_420_3893 ?_
    refine n_m (fun h => ?_) h
    refine w_a f_420_3894 ?_
    refine w_a f_420_3895 ?_
    refine w_a f_420_3897 ?_
    refine w_a f_420_3898 ?_
    refine w_a f_420_3899 ?_
    refine n_m (fun h => ?_) h
    refine w_a f_420_3900 ?_
    refine w_a f_420_3901 ?_
    refine w_a f_420_3903 ?_
    refine w_a f_420_3905 ?_
    refine w_a f_420_3906 ?_
    refine n_m (fun h => ?_) h
    exact w_c (ks := [0, 1, 2, 3, 4, 5]) f_420_3907 rfl rfl h
set_option maxRecDepth 10000 in
set_option maxHeartbeats 4000000 in
theorem s_420_3910 {Lx : Nat} {I : Mi} {L : Ml} {e : Nat} {Q : Kq} {x4 : Int32} {x5 : Int32} {r : Int32} (h :
    (if (I 58 0) = x5 then
     (if x5 = 0 then
      (if (L 70 0) = r.toInt64 then
       Wp 420 4917 [(0, .ref 0), (1, .ref 1), (2, .ref 58), (3, .ref 70), (4, .int x4)] [] (gE Lx) I L e Q
      else
       Q (.inl (some (.int (Int32.ofInt 0)))) (gE Lx) I L e)
     else
      Wp 420 4917 [(0, .ref 0), (1, .ref 1), (2, .ref 58), (3, .ref 70), (4, .int x4)] [] (gE Lx) I L e Q)
    else
     Q (.inl (some (.int (Int32.ofInt 0)))) (gE Lx) I L e)) :
    Wp 420 3910 [(0, .ref 0), (1, .ref 1), (2, .ref 58), (3, .ref 70), (4, .int x4), (5, .int x5)] [.int r] (gE Lx) I L e Q := by
  refine w_a f_420_3910 ?_
  refine w_a (ls := [(6, .int r), (0, .ref 0), (1, .ref 1), (2, .ref 58), (3, .ref 70), (4, .int x4), (5, .int x5)]) f_420_3912 ?_
  refine w_a f_420_3913 ?_
  refine w_a (ls := [(0, .ref 58)]) f_212_0 ?_
  refine w_a f_212_1 ?_
  refine w_a f_212_4 ?_
  refine w_a (ls := [(6, .int r), (0, .ref 0), (1, .ref 1), (2, .ref 58), (3, .ref 70), (4, .int x4), (5, .int x5)]) f_420_3916 ?_
  refine w_a f_420_3918 ?_
  refine i_m (fun h => ?_) (fun h => ?_) h
  · refine w_a f_420_3923 ?_
    refine w_a f_420_3925 ?_
    refine i_m (fun h => ?_) (fun h => ?_) h
    · refine w_a f_420_3928 ?_
      refine w_a f_420_3929 ?_
      refine w_a f_420_3930 ?_
      refine w_a f_420_3931 ?_
      refine w_a f_420_3933 ?_
      refine w_a f_420_3934 ?_
      refine i_m (fun h => ?_) (fun h => ?_) h
      · refine w_a f_420_3940 ?_
        exact w_n (ks := [0, 1, 2, 3, 4]) rfl h
      · refine w_a f_420_3938 ?_
        refine w_a f_420_3939 ?_
        exact h
    · refine w_a f_420_3940 ?_
      exact w_n (ks := [0, 1, 2, 3, 4]) rfl h
  · refine w_a f_420_3921 ?_
    refine w_a f_420_3922 ?_
    exact h
set_option maxRecDepth 10000 in
set_option maxHeartbeats 4000000 in
theorem s_420_3943 {Lx : Nat} {I : Mi} {L : Ml} {e : Nat} {Q : Kq} {x4 : Int32} (h :
    (inb (x4 + (Int32.ofInt 1)) Lx (
     (inb (x4 + (Int32.ofInt 2)) Lx (
      (if (I 0 ((x4 + (Int32.ofInt 2)).toNatClampNeg)) = 0 then
       (inb (x4 + (Int32.ofInt 3)) Lx (
        (inb (x4 + (Int32.ofInt 4)) Lx (
         (inb (x4 + (Int32.ofInt 5)) Lx (
          (inb (x4 + (Int32.ofInt 6)) Lx (
           (inb (x4 + (Int32.ofInt 7)) Lx (
            (inb (x4 + (Int32.ofInt 8)) Lx (
             (if (I 0 ((x4 + (Int32.ofInt 8)).toNatClampNeg)) = 0 then
              (inb (x4 + (Int32.ofInt 9)) Lx (
               (if (I 0 ((x4 + (Int32.ofInt 9)).toNatClampNeg)) = 0 then
                Wp 406 0 [(0, .ref 1), (1, .int (I 0 ((x4 + (Int32.ofInt 1)).toNatClampNeg))), (2, .int (Int32.ofInt 0)), (3, .int (I 0 ((x4 + (Int32.ofInt 3)).toNatClampNeg))), (4, .int (I 0 ((x4 + (Int32.ofInt 4)).toNatClampNeg))), (5, .int (I 0 ((x4 + (Int32.ofInt 5)).toNatClampNeg))), (6, .int (I 0 ((x4 + (Int32.ofInt 6)).toNatClampNeg))), (7, .int (I 0 ((x4 + (Int32.ofInt 7)).toNatClampNeg))), (8, .int (Int32.ofInt 0)), (9, .int (Int32.ofInt 0)), (10, .ref 70)] [] (gE Lx) I L e (kcp (Wp 420) 420 4027 0 [(0, .ref 0), (1, .ref 1), (2, .ref 58), (3, .ref 70), (4, .int x4)] 71 [] Q)
               else
                Wp 406 0 [(0, .ref 1), (1, .int (I 0 ((x4 + (Int32.ofInt 1)).toNatClampNeg))), (2, .int (Int32.ofInt 0)), (3, .int (I 0 ((x4 + (Int32.ofInt 3)).toNatClampNeg))), (4, .int (I 0 ((x4 + (Int32.ofInt 4)).toNatClampNeg))), (5, .int (I 0 ((x4 + (Int32.ofInt 5)).toNatClampNeg))), (6, .int (I 0 ((x4 + (Int32.ofInt 6)).toNatClampNeg))), (7, .int (I 0 ((x4 + (Int32.ofInt 7)).toNatClampNeg))), (8, .int (Int32.ofInt 0)), (9, .int (Int32.ofInt 1)), (10, .ref 70)] [] (gE Lx) I L e (kcp (Wp 420) 420 4027 0 [(0, .ref 0), (1, .ref 1), (2, .ref 58), (3, .ref 70), (4, .int x4)] 71 [] Q)))
              False)
             else
              (inb (x4 + (Int32.ofInt 9)) Lx (
               (if (I 0 ((x4 + (Int32.ofInt 9)).toNatClampNeg)) = 0 then
                Wp 406 0 [(0, .ref 1), (1, .int (I 0 ((x4 + (Int32.ofInt 1)).toNatClampNeg))), (2, .int (Int32.ofInt 0)), (3, .int (I 0 ((x4 + (Int32.ofInt 3)).toNatClampNeg))), (4, .int (I 0 ((x4 + (Int32.ofInt 4)).toNatClampNeg))), (5, .int (I 0 ((x4 + (Int32.ofInt 5)).toNatClampNeg))), (6, .int (I 0 ((x4 + (Int32.ofInt 6)).toNatClampNeg))), (7, .int (I 0 ((x4 + (Int32.ofInt 7)).toNatClampNeg))), (8, .int (Int32.ofInt 1)), (9, .int (Int32.ofInt 0)), (10, .ref 70)] [] (gE Lx) I L e (kcp (Wp 420) 420 4027 0 [(0, .ref 0), (1, .ref 1), (2, .ref 58), (3, .ref 70), (4, .int x4)] 71 [] Q)
               else
                Wp 406 0 [(0, .ref 1), (1, .int (I 0 ((x4 + (Int32.ofInt 1)).toNatClampNeg))), (2, .int (Int32.ofInt 0)), (3, .int (I 0 ((x4 + (Int32.ofInt 3)).toNatClampNeg))), (4, .int (I 0 ((x4 + (Int32.ofInt 4)).toNatClampNeg))), (5, .int (I 0 ((x4 + (Int32.ofInt 5)).toNatClampNeg))), (6, .int (I 0 ((x4 + (Int32.ofInt 6)).toNatClampNeg))), (7, .int (I 0 ((x4 + (Int32.ofInt 7)).toNatClampNeg))), (8, .int (Int32.ofInt 1)), (9, .int (Int32.ofInt 1)), (10, .ref 70)] [] (gE Lx) I L e (kcp (Wp 420) 420 4027 0 [(0, .ref 0), (1, .ref 1), (2, .ref 58), (3, .ref 70), (4, .int x4)] 71 [] Q)))
              False)))
            False))
           False))
          False))
         False))
        False))
       False)
      else
       (inb (x4 + (Int32.ofInt 3)) Lx (
        (inb (x4 + (Int32.ofInt 4)) Lx (
         (inb (x4 + (Int32.ofInt 5)) Lx (
          (inb (x4 + (Int32.ofInt 6)) Lx (
           (inb (x4 + (Int32.ofInt 7)) Lx (
            (inb (x4 + (Int32.ofInt 8)) Lx (
             (if (I 0 ((x4 + (Int32.ofInt 8)).toNatClampNeg)) = 0 then
              (inb (x4 + (Int32.ofInt 9)) Lx (
               (if (I 0 ((x4 + (Int32.ofInt 9)).toNatClampNeg)) = 0 then
                Wp 406 0 [(0, .ref 1), (1, .int (I 0 ((x4 + (Int32.ofInt 1)).toNatClampNeg))), (2, .int (Int32.ofInt 1)), (3, .int (I 0 ((x4 + (Int32.ofInt 3)).toNatClampNeg))), (4, .int (I 0 ((x4 + (Int32.ofInt 4)).toNatClampNeg))), (5, .int (I 0 ((x4 + (Int32.ofInt 5)).toNatClampNeg))), (6, .int (I 0 ((x4 + (Int32.ofInt 6)).toNatClampNeg))), (7, .int (I 0 ((x4 + (Int32.ofInt 7)).toNatClampNeg))), (8, .int (Int32.ofInt 0)), (9, .int (Int32.ofInt 0)), (10, .ref 70)] [] (gE Lx) I L e (kcp (Wp 420) 420 4027 0 [(0, .ref 0), (1, .ref 1), (2, .ref 58), (3, .ref 70), (4, .int x4)] 71 [] Q)
               else
                Wp 406 0 [(0, .ref 1), (1, .int (I 0 ((x4 + (Int32.ofInt 1)).toNatClampNeg))), (2, .int (Int32.ofInt 1)), (3, .int (I 0 ((x4 + (Int32.ofInt 3)).toNatClampNeg))), (4, .int (I 0 ((x4 + (Int32.ofInt 4)).toNatClampNeg))), (5, .int (I 0 ((x4 + (Int32.ofInt 5)).toNatClampNeg))), (6, .int (I 0 ((x4 + (Int32.ofInt 6)).toNatClampNeg))), (7, .int (I 0 ((x4 + (Int32.ofInt 7)).toNatClampNeg))), (8, .int (Int32.ofInt 0)), (9, .int (Int32.ofInt 1)), (10, .ref 70)] [] (gE Lx) I L e (kcp (Wp 420) 420 4027 0 [(0, .ref 0), (1, .ref 1), (2, .ref 58), (3, .ref 70), (4, .int x4)] 71 [] Q)))
              False)
             else
              (inb (x4 + (Int32.ofInt 9)) Lx (
               (if (I 0 ((x4 + (Int32.ofInt 9)).toNatClampNeg)) = 0 then
                Wp 406 0 [(0, .ref 1), (1, .int (I 0 ((x4 + (Int32.ofInt 1)).toNatClampNeg))), (2, .int (Int32.ofInt 1)), (3, .int (I 0 ((x4 + (Int32.ofInt 3)).toNatClampNeg))), (4, .int (I 0 ((x4 + (Int32.ofInt 4)).toNatClampNeg))), (5, .int (I 0 ((x4 + (Int32.ofInt 5)).toNatClampNeg))), (6, .int (I 0 ((x4 + (Int32.ofInt 6)).toNatClampNeg))), (7, .int (I 0 ((x4 + (Int32.ofInt 7)).toNatClampNeg))), (8, .int (Int32.ofInt 1)), (9, .int (Int32.ofInt 0)), (10, .ref 70)] [] (gE Lx) I L e (kcp (Wp 420) 420 4027 0 [(0, .ref 0), (1, .ref 1), (2, .ref 58), (3, .ref 70), (4, .int x4)] 71 [] Q)
               else
                Wp 406 0 [(0, .ref 1), (1, .int (I 0 ((x4 + (Int32.ofInt 1)).toNatClampNeg))), (2, .int (Int32.ofInt 1)), (3, .int (I 0 ((x4 + (Int32.ofInt 3)).toNatClampNeg))), (4, .int (I 0 ((x4 + (Int32.ofInt 4)).toNatClampNeg))), (5, .int (I 0 ((x4 + (Int32.ofInt 5)).toNatClampNeg))), (6, .int (I 0 ((x4 + (Int32.ofInt 6)).toNatClampNeg))), (7, .int (I 0 ((x4 + (Int32.ofInt 7)).toNatClampNeg))), (8, .int (Int32.ofInt 1)), (9, .int (Int32.ofInt 1)), (10, .ref 70)] [] (gE Lx) I L e (kcp (Wp 420) 420 4027 0 [(0, .ref 0), (1, .ref 1), (2, .ref 58), (3, .ref 70), (4, .int x4)] 71 [] Q)))
              False)))
            False))
           False))
          False))
         False))
        False))
       False)))
     False))
    False)) :
    Wp 420 3943 [(0, .ref 0), (1, .ref 1), (2, .ref 58), (3, .ref 70), (4, .int x4)] [] (gE Lx) I L e Q := by
  refine w_a f_420_3943 ?_
  refine w_a f_420_3944 ?_
  refine w_a f_420_3945 ?_
  refine w_a f_420_3947 ?_
  refine w_a f_420_3948 ?_
  refine w_a f_420_3949 ?_
  refine n_m (fun h => ?_) h
  refine w_a f_420_3950 ?_
  refine w_a f_420_3951 ?_
  refine w_a f_420_3953 ?_
  refine w_a f_420_3954 ?_
  refine w_a f_420_3955 ?_
  refine n_m (fun h => ?_) h
  refine w_a f_420_3956 ?_
  refine i_m (fun h => ?_) (fun h => ?_) h
  · refine w_a f_420_3963 ?_
    refine w_a f_420_3964 ?_
    refine w_a f_420_3965 ?_
    refine w_a f_420_3967 ?_
    refine w_a f_420_3968 ?_
    refine w_a f_420_3969 ?_
    refine n_m (fun h => ?_) h
    refine w_a f_420_3970 ?_
    refine w_a f_420_3971 ?_
    refine w_a f_420_3973 ?_
    refine w_a f_420_3974 ?_
    refine w_a f_420_3975 ?_
    refine n_m (fun h => ?_) h
    refine w_a f_420_3976 ?_
    refine w_a f_420_3977 ?_
    refine w_a f_420_3979 ?_
    refine w_a f_420_3980 ?_
    refine w_a f_420_3981 ?_
    refine n_m (fun h => ?_) h
    refine w_a f_420_3982 ?_
    refine w_a f_420_3983 ?_
    refine w_a f_420_3985 ?_
    refine w_a f_420_3987 ?_
    refine w_a f_420_3988 ?_
    refine n_m (fun h => ?_) h
    refine w_a f_420_3989 ?_
    refine w_a f_420_3990 ?_
    refine w_a f_420_3992 ?_
    refine w_a f_420_3994 ?_
    refine w_a f_420_3995 ?_
    refine n_m (fun h => ?_) h
    refine w_a f_420_3996 ?_
    refine w_a f_420_3997 ?_
    refine w_a f_420_3999 ?_
    refine w_a f_420_4001 ?_
    refine w_a f_420_4002 ?_
    refine n_m (fun h => ?_) h
    refine w_a f_420_4003 ?_
    refine i_m (fun h => ?_) (fun h => ?_) h
    · refine w_a f_420_4010 ?_
      refine w_a f_420_4011 ?_
      refine w_a f_420_4012 ?_
      refine w_a f_420_4014 ?_
      refine w_a f_420_4016 ?_
      refine w_a f_420_4017 ?_
      refine n_m (fun h => ?_) h
      refine w_a f_420_4018 ?_
      refine i_m (fun h => ?_) (fun h => ?_) h
      · refine w_a f_420_4025 ?_
        refine w_a f_420_4026 ?_
        exact w_c (ks := [0, 1, 2, 3, 4]) f_420_4027 rfl rfl h
      · refine w_a f_420_4021 ?_
        refine w_a f_420_4022 ?_
        refine w_a f_420_4026 ?_
        exact w_c (ks := [0, 1, 2, 3, 4]) f_420_4027 rfl rfl h
    · refine w_a f_420_4006 ?_
      refine w_a f_420_4007 ?_
      refine w_a f_420_4011 ?_
      refine w_a f_420_4012 ?_
      refine w_a f_420_4014 ?_
      refine w_a f_420_4016 ?_
      refine w_a f_420_4017 ?_
      refine n_m (fun h => ?_) h
      refine w_a f_420_4018 ?_
      refine i_m (fun h => ?_) (fun h => ?_) h
      · refine w_a f_420_4025 ?_
        refine w_a f_420_4026 ?_
        exact w_c (ks := [0, 1, 2, 3, 4]) f_420_4027 rfl rfl h
      · refine w_a f_420_4021 ?_
        refine w_a f_420_4022 ?_
        refine w_a f_420_4026 ?_
        exact w_c (ks := [0, 1, 2, 3, 4]) f_420_4027 rfl rfl h
  · refine w_a f_420_3959 ?_
    refine w_a f_420_3960 ?_
    refine w_a f_420_3964 ?_
    refine w_a f_420_3965 ?_
    refine w_a f_420_3967 ?_
    refine w_a f_420_3968 ?_
    refine w_a f_420_3969 ?_
    refine n_m (fun h => ?_) h
    refine w_a f_420_3970 ?_
    refine w_a f_420_3971 ?_
    refine w_a f_420_3973 ?_
    refine w_a f_420_3974 ?_
    refine w_a f_420_3975 ?_
    refine n_m (fun h => ?_) h
    refine w_a f_420_3976 ?_
    refine w_a f_420_3977 ?_
    refine w_a f_420_3979 ?_
    refine w_a f_420_3980 ?_
    refine w_a f_420_3981 ?_
    refine n_m (fun h => ?_) h
    refine w_a f_420_3982 ?_
    refine w_a f_420_3983 ?_
    refine w_a f_420_3985 ?_
    refine w_a f_420_3987 ?_
    refine w_a f_420_3988 ?_
    refine n_m (fun h => ?_) h
    refine w_a f_420_3989 ?_
    refine w_a f_420_3990 ?_
    refine w_a f_420_3992 ?_
    refine w_a f_420_3994 ?_
    refine w_a f_420_3995 ?_
    refine n_m (fun h => ?_) h
    refine w_a f_420_3996 ?_
    refine w_a f_420_3997 ?_
    refine w_a f_420_3999 ?_
    refine w_a f_420_4001 ?_
    refine w_a f_420_4002 ?_
    refine n_m (fun h => ?_) h
    refine w_a f_420_4003 ?_
    refine i_m (fun h => ?_) (fun h => ?_) h
    · refine w_a f_420_4010 ?_
      refine w_a f_420_4011 ?_
      refine w_a f_420_4012 ?_
      refine w_a f_420_4014 ?_
      refine w_a f_420_4016 ?_
      refine w_a f_420_4017 ?_
      refine n_m (fun h => ?_) h
      refine w_a f_420_4018 ?_
      refine i_m (fun h => ?_) (fun h => ?_) h
      · refine w_a f_420_4025 ?_
        refine w_a f_420_4026 ?_
        exact w_c (ks := [0, 1, 2, 3, 4]) f_420_4027 rfl rfl h
      · refine w_a f_420_4021 ?_
        refine w_a f_420_4022 ?_
        refine w_a f_420_4026 ?_
        exact w_c (ks := [0, 1, 2, 3, 4]) f_420_4027 rfl rfl h
    · refine w_a f_420_4006 ?_
      refine w_a f_420_4007 ?_
      refine w_a f_420_4011 ?_
      refine w_a f_420_4012 ?_
      refine w_a f_420_4014 ?_
      refine w_a f_420_4016 ?_
      refine w_a f_420_4017 ?_
      refine n_m (fun h => ?_) h
      refine w_a f_420_4018 ?_
      refine i_m (fun h => ?_) (fun h => ?_) h
      · refine w_a f_420_4025 ?_
        refine w_a f_420_4026 ?_
        exact w_c (ks := [0, 1, 2, 3, 4]) f_420_4027 rfl rfl h
      · refine w_a f_420_4021 ?_
        refine w_a f_420_4022 ?_
        refine w_a f_420_4026 ?_
        exact w_c (ks := [0, 1, 2, 3, 4]) f_420_4027 rfl rfl h
set_option maxRecDepth 10000 in
set_option maxHeartbeats 4000000 in
theorem s_420_4030 {Lx : Nat} {I : Mi} {L : Ml} {e : Nat} {Q : Kq} {x4 : Int32} {r : Int32} (h :
    (inb (x4 + (Int32.ofInt 1)) Lx (
     (inb (x4 + (Int32.ofInt 2)) Lx (
      (if (I 0 ((x4 + (Int32.ofInt 2)).toNatClampNeg)) = 0 then
       (inb (x4 + (Int32.ofInt 3)) Lx (
        (inb (x4 + (Int32.ofInt 4)) Lx (
         (inb (x4 + (Int32.ofInt 5)) Lx (
          (inb (x4 + (Int32.ofInt 6)) Lx (
           (inb (x4 + (Int32.ofInt 7)) Lx (
            (inb (x4 + (Int32.ofInt 8)) Lx (
             (if (I 0 ((x4 + (Int32.ofInt 8)).toNatClampNeg)) = 0 then
              (inb (x4 + (Int32.ofInt 9)) Lx (
               (if (I 0 ((x4 + (Int32.ofInt 9)).toNatClampNeg)) = 0 then
                Wp 291 0 [(0, .ref 58), (1, .int (I 0 ((x4 + (Int32.ofInt 1)).toNatClampNeg))), (2, .int (Int32.ofInt 0)), (3, .int (I 0 ((x4 + (Int32.ofInt 3)).toNatClampNeg))), (4, .int (I 0 ((x4 + (Int32.ofInt 4)).toNatClampNeg))), (5, .int (I 0 ((x4 + (Int32.ofInt 5)).toNatClampNeg))), (6, .int (I 0 ((x4 + (Int32.ofInt 6)).toNatClampNeg))), (7, .int (I 0 ((x4 + (Int32.ofInt 7)).toNatClampNeg))), (8, .int (Int32.ofInt 0)), (9, .int (Int32.ofInt 0))] [] (gE Lx) I L e (kcp (Wp 420) 420 4115 0 [(0, .ref 0), (1, .ref 1), (2, .ref 58), (3, .ref 70), (4, .int x4), (5, .int r)] 71 [] Q)
               else
                Wp 291 0 [(0, .ref 58), (1, .int (I 0 ((x4 + (Int32.ofInt 1)).toNatClampNeg))), (2, .int (Int32.ofInt 0)), (3, .int (I 0 ((x4 + (Int32.ofInt 3)).toNatClampNeg))), (4, .int (I 0 ((x4 + (Int32.ofInt 4)).toNatClampNeg))), (5, .int (I 0 ((x4 + (Int32.ofInt 5)).toNatClampNeg))), (6, .int (I 0 ((x4 + (Int32.ofInt 6)).toNatClampNeg))), (7, .int (I 0 ((x4 + (Int32.ofInt 7)).toNatClampNeg))), (8, .int (Int32.ofInt 0)), (9, .int (Int32.ofInt 1))] [] (gE Lx) I L e (kcp (Wp 420) 420 4115 0 [(0, .ref 0), (1, .ref 1), (2, .ref 58), (3, .ref 70), (4, .int x4), (5, .int r)] 71 [] Q)))
              False)
             else
              (inb (x4 + (Int32.ofInt 9)) Lx (
               (if (I 0 ((x4 + (Int32.ofInt 9)).toNatClampNeg)) = 0 then
                Wp 291 0 [(0, .ref 58), (1, .int (I 0 ((x4 + (Int32.ofInt 1)).toNatClampNeg))), (2, .int (Int32.ofInt 0)), (3, .int (I 0 ((x4 + (Int32.ofInt 3)).toNatClampNeg))), (4, .int (I 0 ((x4 + (Int32.ofInt 4)).toNatClampNeg))), (5, .int (I 0 ((x4 + (Int32.ofInt 5)).toNatClampNeg))), (6, .int (I 0 ((x4 + (Int32.ofInt 6)).toNatClampNeg))), (7, .int (I 0 ((x4 + (Int32.ofInt 7)).toNatClampNeg))), (8, .int (Int32.ofInt 1)), (9, .int (Int32.ofInt 0))] [] (gE Lx) I L e (kcp (Wp 420) 420 4115 0 [(0, .ref 0), (1, .ref 1), (2, .ref 58), (3, .ref 70), (4, .int x4), (5, .int r)] 71 [] Q)
               else
                Wp 291 0 [(0, .ref 58), (1, .int (I 0 ((x4 + (Int32.ofInt 1)).toNatClampNeg))), (2, .int (Int32.ofInt 0)), (3, .int (I 0 ((x4 + (Int32.ofInt 3)).toNatClampNeg))), (4, .int (I 0 ((x4 + (Int32.ofInt 4)).toNatClampNeg))), (5, .int (I 0 ((x4 + (Int32.ofInt 5)).toNatClampNeg))), (6, .int (I 0 ((x4 + (Int32.ofInt 6)).toNatClampNeg))), (7, .int (I 0 ((x4 + (Int32.ofInt 7)).toNatClampNeg))), (8, .int (Int32.ofInt 1)), (9, .int (Int32.ofInt 1))] [] (gE Lx) I L e (kcp (Wp 420) 420 4115 0 [(0, .ref 0), (1, .ref 1), (2, .ref 58), (3, .ref 70), (4, .int x4), (5, .int r)] 71 [] Q)))
              False)))
            False))
           False))
          False))
         False))
        False))
       False)
      else
       (inb (x4 + (Int32.ofInt 3)) Lx (
        (inb (x4 + (Int32.ofInt 4)) Lx (
         (inb (x4 + (Int32.ofInt 5)) Lx (
          (inb (x4 + (Int32.ofInt 6)) Lx (
           (inb (x4 + (Int32.ofInt 7)) Lx (
            (inb (x4 + (Int32.ofInt 8)) Lx (
             (if (I 0 ((x4 + (Int32.ofInt 8)).toNatClampNeg)) = 0 then
              (inb (x4 + (Int32.ofInt 9)) Lx (
               (if (I 0 ((x4 + (Int32.ofInt 9)).toNatClampNeg)) = 0 then
                Wp 291 0 [(0, .ref 58), (1, .int (I 0 ((x4 + (Int32.ofInt 1)).toNatClampNeg))), (2, .int (Int32.ofInt 1)), (3, .int (I 0 ((x4 + (Int32.ofInt 3)).toNatClampNeg))), (4, .int (I 0 ((x4 + (Int32.ofInt 4)).toNatClampNeg))), (5, .int (I 0 ((x4 + (Int32.ofInt 5)).toNatClampNeg))), (6, .int (I 0 ((x4 + (Int32.ofInt 6)).toNatClampNeg))), (7, .int (I 0 ((x4 + (Int32.ofInt 7)).toNatClampNeg))), (8, .int (Int32.ofInt 0)), (9, .int (Int32.ofInt 0))] [] (gE Lx) I L e (kcp (Wp 420) 420 4115 0 [(0, .ref 0), (1, .ref 1), (2, .ref 58), (3, .ref 70), (4, .int x4), (5, .int r)] 71 [] Q)
               else
                Wp 291 0 [(0, .ref 58), (1, .int (I 0 ((x4 + (Int32.ofInt 1)).toNatClampNeg))), (2, .int (Int32.ofInt 1)), (3, .int (I 0 ((x4 + (Int32.ofInt 3)).toNatClampNeg))), (4, .int (I 0 ((x4 + (Int32.ofInt 4)).toNatClampNeg))), (5, .int (I 0 ((x4 + (Int32.ofInt 5)).toNatClampNeg))), (6, .int (I 0 ((x4 + (Int32.ofInt 6)).toNatClampNeg))), (7, .int (I 0 ((x4 + (Int32.ofInt 7)).toNatClampNeg))), (8, .int (Int32.ofInt 0)), (9, .int (Int32.ofInt 1))] [] (gE Lx) I L e (kcp (Wp 420) 420 4115 0 [(0, .ref 0), (1, .ref 1), (2, .ref 58), (3, .ref 70), (4, .int x4), (5, .int r)] 71 [] Q)))
              False)
             else
              (inb (x4 + (Int32.ofInt 9)) Lx (
               (if (I 0 ((x4 + (Int32.ofInt 9)).toNatClampNeg)) = 0 then
                Wp 291 0 [(0, .ref 58), (1, .int (I 0 ((x4 + (Int32.ofInt 1)).toNatClampNeg))), (2, .int (Int32.ofInt 1)), (3, .int (I 0 ((x4 + (Int32.ofInt 3)).toNatClampNeg))), (4, .int (I 0 ((x4 + (Int32.ofInt 4)).toNatClampNeg))), (5, .int (I 0 ((x4 + (Int32.ofInt 5)).toNatClampNeg))), (6, .int (I 0 ((x4 + (Int32.ofInt 6)).toNatClampNeg))), (7, .int (I 0 ((x4 + (Int32.ofInt 7)).toNatClampNeg))), (8, .int (Int32.ofInt 1)), (9, .int (Int32.ofInt 0))] [] (gE Lx) I L e (kcp (Wp 420) 420 4115 0 [(0, .ref 0), (1, .ref 1), (2, .ref 58), (3, .ref 70), (4, .int x4), (5, .int r)] 71 [] Q)
               else
                Wp 291 0 [(0, .ref 58), (1, .int (I 0 ((x4 + (Int32.ofInt 1)).toNatClampNeg))), (2, .int (Int32.ofInt 1)), (3, .int (I 0 ((x4 + (Int32.ofInt 3)).toNatClampNeg))), (4, .int (I 0 ((x4 + (Int32.ofInt 4)).toNatClampNeg))), (5, .int (I 0 ((x4 + (Int32.ofInt 5)).toNatClampNeg))), (6, .int (I 0 ((x4 + (Int32.ofInt 6)).toNatClampNeg))), (7, .int (I 0 ((x4 + (Int32.ofInt 7)).toNatClampNeg))), (8, .int (Int32.ofInt 1)), (9, .int (Int32.ofInt 1))] [] (gE Lx) I L e (kcp (Wp 420) 420 4115 0 [(0, .ref 0), (1, .ref 1), (2, .ref 58), (3, .ref 70), (4, .int x4), (5, .int r)] 71 [] Q)))
              False)))
            False))
           False))
          False))
         False))
        False))
       False)))
     False))
    False)) :
    Wp 420 4030 [(0, .ref 0), (1, .ref 1), (2, .ref 58), (3, .ref 70), (4, .int x4)] [.int r] (gE Lx) I L e Q := by
  refine w_a f_420_4030 ?_
  refine w_a (ls := [(5, .int r), (0, .ref 0), (1, .ref 1), (2, .ref 58), (3, .ref 70), (4, .int x4)]) f_420_4032 ?_
  refine w_a f_420_4033 ?_
  refine w_a f_420_4034 ?_
  refine w_a f_420_4036 ?_
  refine w_a f_420_4037 ?_
  refine w_a f_420_4038 ?_
  refine n_m (fun h => ?_) h
  refine w_a f_420_4039 ?_
  refine w_a f_420_4040 ?_
  refine w_a f_420_4042 ?_
  refine w_a f_420_4043 ?_
  refine w_a f_420_4044 ?_
  refine n_m (fun h => ?_) h
  refine w_a f_420_4045 ?_
  refine i_m (fun h => ?_) (fun h => ?_) h
  · refine w_a f_420_4052 ?_
    refine w_a f_420_4053 ?_
    refine w_a f_420_4054 ?_
    refine w_a f_420_4056 ?_
    refine w_a f_420_4057 ?_
    refine w_a f_420_4058 ?_
    refine n_m (fun h => ?_) h
    refine w_a f_420_4059 ?_
    refine w_a f_420_4060 ?_
    refine w_a f_420_4062 ?_
    refine w_a f_420_4063 ?_
    refine w_a f_420_4064 ?_
    refine n_m (fun h => ?_) h
    refine w_a f_420_4065 ?_
    refine w_a f_420_4066 ?_
    refine w_a f_420_4068 ?_
    refine w_a f_420_4069 ?_
    refine w_a f_420_4070 ?_
    refine n_m (fun h => ?_) h
    refine w_a f_420_4071 ?_
    refine w_a f_420_4072 ?_
    refine w_a f_420_4074 ?_
    refine w_a f_420_4076 ?_
    refine w_a f_420_4077 ?_
    refine n_m (fun h => ?_) h
    refine w_a f_420_4078 ?_
    refine w_a f_420_4079 ?_
    refine w_a f_420_4081 ?_
    refine w_a f_420_4083 ?_
    refine w_a f_420_4084 ?_
    refine n_m (fun h => ?_) h
    refine w_a f_420_4085 ?_
    refine w_a f_420_4086 ?_
    refine w_a f_420_4088 ?_
    refine w_a f_420_4090 ?_
    refine w_a f_420_4091 ?_
    refine n_m (fun h => ?_) h
    refine w_a f_420_4092 ?_
    refine i_m (fun h => ?_) (fun h => ?_) h
    · refine w_a f_420_4099 ?_
      refine w_a f_420_4100 ?_
      refine w_a f_420_4101 ?_
      refine w_a f_420_4103 ?_
      refine w_a f_420_4105 ?_
      refine w_a f_420_4106 ?_
      refine n_m (fun h => ?_) h
      refine w_a f_420_4107 ?_
      refine i_m (fun h => ?_) (fun h => ?_) h
      · refine w_a f_420_4114 ?_
        exact w_c (ks := [0, 1, 2, 3, 4, 5]) f_420_4115 rfl rfl h
      · refine w_a f_420_4110 ?_
        refine w_a f_420_4111 ?_
        exact w_c (ks := [0, 1, 2, 3, 4, 5]) f_420_4115 rfl rfl h
    · refine w_a f_420_4095 ?_
      refine w_a f_420_4096 ?_
      refine w_a f_420_4100 ?_
      refine w_a f_420_4101 ?_
      refine w_a f_420_4103 ?_
      refine w_a f_420_4105 ?_
      refine w_a f_420_4106 ?_
      refine n_m (fun h => ?_) h
      refine w_a f_420_4107 ?_
      refine i_m (fun h => ?_) (fun h => ?_) h
      · refine w_a f_420_4114 ?_
        exact w_c (ks := [0, 1, 2, 3, 4, 5]) f_420_4115 rfl rfl h
      · refine w_a f_420_4110 ?_
        refine w_a f_420_4111 ?_
        exact w_c (ks := [0, 1, 2, 3, 4, 5]) f_420_4115 rfl rfl h
  · refine w_a f_420_4048 ?_
    refine w_a f_420_4049 ?_
    refine w_a f_420_4053 ?_
    refine w_a f_420_4054 ?_
    refine w_a f_420_4056 ?_
    refine w_a f_420_4057 ?_
    refine w_a f_420_4058 ?_
    refine n_m (fun h => ?_) h
    refine w_a f_420_4059 ?_
    refine w_a f_420_4060 ?_
    refine w_a f_420_4062 ?_
    refine w_a f_420_4063 ?_
    refine w_a f_420_4064 ?_
    refine n_m (fun h => ?_) h
    refine w_a f_420_4065 ?_
    refine w_a f_420_4066 ?_
    refine w_a f_420_4068 ?_
    refine w_a f_420_4069 ?_
    refine w_a f_420_4070 ?_
    refine n_m (fun h => ?_) h
    refine w_a f_420_4071 ?_
    refine w_a f_420_4072 ?_
    refine w_a f_420_4074 ?_
    refine w_a f_420_4076 ?_
    refine w_a f_420_4077 ?_
    refine n_m (fun h => ?_) h
    refine w_a f_420_4078 ?_
    refine w_a f_420_4079 ?_
    refine w_a f_420_4081 ?_
    refine w_a f_420_4083 ?_
    refine w_a f_420_4084 ?_
    refine n_m (fun h => ?_) h
    refine w_a f_420_4085 ?_
    refine w_a f_420_4086 ?_
    refine w_a f_420_4088 ?_
    refine w_a f_420_4090 ?_
    refine w_a f_420_4091 ?_
    refine n_m (fun h => ?_) h
    refine w_a f_420_4092 ?_
    refine i_m (fun h => ?_) (fun h => ?_) h
    · refine w_a f_420_4099 ?_
      refine w_a f_420_4100 ?_
      refine w_a f_420_4101 ?_
      refine w_a f_420_4103 ?_
      refine w_a f_420_4105 ?_
      refine w_a f_420_4106 ?_
      refine n_m (fun h => ?_) h
      refine w_a f_420_4107 ?_
      refine i_m (fun h => ?_) (fun h => ?_) h
      · refine w_a f_420_4114 ?_
        exact w_c (ks := [0, 1, 2, 3, 4, 5]) f_420_4115 rfl rfl h
      · refine w_a f_420_4110 ?_
        refine w_a f_420_4111 ?_
        exact w_c (ks := [0, 1, 2, 3, 4, 5]) f_420_4115 rfl rfl h
    · refine w_a f_420_4095 ?_
      refine w_a f_420_4096 ?_
      refine w_a f_420_4100 ?_
      refine w_a f_420_4101 ?_
      refine w_a f_420_4103 ?_
      refine w_a f_420_4105 ?_
      refine w_a f_420_4106 ?_
      refine n_m (fun h => ?_) h
      refine w_a f_420_4107 ?_
      refine i_m (fun h => ?_) (fun h => ?_) h
      · refine w_a f_420_4114 ?_
        exact w_c (ks := [0, 1, 2, 3, 4, 5]) f_420_4115 rfl rfl h
      · refine w_a f_420_4110 ?_
        refine w_a f_420_4111 ?_
        exact w_c (ks := [0, 1, 2, 3, 4, 5]) f_420_4115 rfl rfl h
set_option maxRecDepth 10000 in
set_option maxHeartbeats 4000000 in
theorem s_420_4118 {Lx : Nat} {I : Mi} {L : Ml} {e : Nat} {Q : Kq} {x4 : Int32} {x5 : Int32} {rl : Int64} (h :
    (if (I 58 0) = x5 then
     (if x5 = 0 then
      (if (L 70 0) = rl then
       Wp 420 4917 [(0, .ref 0), (1, .ref 1), (2, .ref 58), (3, .ref 70), (4, .int x4)] [] (gE Lx) I L e Q
      else
       Q (.inl (some (.int (Int32.ofInt 0)))) (gE Lx) I L e)
     else
      Wp 420 4917 [(0, .ref 0), (1, .ref 1), (2, .ref 58), (3, .ref 70), (4, .int x4)] [] (gE Lx) I L e Q)
    else
     Q (.inl (some (.int (Int32.ofInt 0)))) (gE Lx) I L e)) :
    Wp 420 4118 [(0, .ref 0), (1, .ref 1), (2, .ref 58), (3, .ref 70), (4, .int x4), (5, .int x5)] [.long rl] (gE Lx) I L e Q := by
  refine w_a f_420_4118 ?_
  refine w_a (ls := [(6, .long rl), (0, .ref 0), (1, .ref 1), (2, .ref 58), (3, .ref 70), (4, .int x4), (5, .int x5)]) f_420_4120 ?_
  refine w_a f_420_4121 ?_
  refine w_a (ls := [(0, .ref 58)]) f_212_0 ?_
  refine w_a f_212_1 ?_
  refine w_a f_212_4 ?_
  refine w_a (ls := [(6, .long rl), (0, .ref 0), (1, .ref 1), (2, .ref 58), (3, .ref 70), (4, .int x4), (5, .int x5)]) f_420_4124 ?_
  refine w_a f_420_4126 ?_
  refine i_m (fun h => ?_) (fun h => ?_) h
  · refine w_a f_420_4131 ?_
    refine w_a f_420_4133 ?_
    refine i_m (fun h => ?_) (fun h => ?_) h
    · refine w_a f_420_4136 ?_
      refine w_a f_420_4137 ?_
      refine w_a f_420_4138 ?_
      refine w_a f_420_4139 ?_
      refine w_a f_420_4141 ?_
      refine i_m (fun h => ?_) (fun h => ?_) h
      · refine w_a f_420_4147 ?_
        exact w_n (ks := [0, 1, 2, 3, 4]) rfl h
      · refine w_a f_420_4145 ?_
        refine w_a f_420_4146 ?_
        exact h
    · refine w_a f_420_4147 ?_
      exact w_n (ks := [0, 1, 2, 3, 4]) rfl h
  · refine w_a f_420_4129 ?_
    refine w_a f_420_4130 ?_
    exact h
