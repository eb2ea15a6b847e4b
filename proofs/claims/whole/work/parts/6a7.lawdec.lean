theorem dL_law_2205 : decode cL_law 2205 = .ok (.iconst 1, 1) := by decide +kernel
theorem dL_law_2206 : decode cL_law 2206 = .ok (.iadd, 1) := by decide +kernel
theorem dL_law_2207 : decode cL_law 2207 = .ok (.iaload, 1) := by decide +kernel
theorem dL_law_2208 : decode cL_law 2208 = .ok (.invokevirtual 208, 3) := by decide +kernel
theorem dL_law_2211 : decode cL_law 2211 = .ok (.istore 6, 2) := by decide +kernel
theorem dL_law_2213 : decode cL_law 2213 = .ok (.aload_n 2, 1) := by decide +kernel
theorem dL_law_2214 : decode cL_law 2214 = .ok (.invokevirtual 118, 3) := by decide +kernel
theorem dL_law_2217 : decode cL_law 2217 = .ok (.iload 5, 2) := by decide +kernel
theorem dL_law_2219 : decode cL_law 2219 = .ok (.if_icmp .eq 5, 3) := by decide +kernel
theorem dL_law_2222 : decode cL_law 2222 = .ok (.iconst 0, 1) := by decide +kernel
theorem dL_law_2223 : decode cL_law 2223 = .ok (.ireturn, 1) := by decide +kernel
theorem dL_law_2224 : decode cL_law 2224 = .ok (.iload 5, 2) := by decide +kernel
theorem dL_law_2226 : decode cL_law 2226 = .ok (.ifCond .ne 15, 3) := by decide +kernel
theorem dL_law_2229 : decode cL_law 2229 = .ok (.aload_n 3, 1) := by decide +kernel
theorem dL_law_2230 : decode cL_law 2230 = .ok (.iconst 0, 1) := by decide +kernel
theorem dL_law_2231 : decode cL_law 2231 = .ok (.laload, 1) := by decide +kernel
theorem dL_law_2232 : decode cL_law 2232 = .ok (.iload 6, 2) := by decide +kernel
theorem dL_law_2234 : decode cL_law 2234 = .ok (.i2l, 1) := by decide +kernel
theorem dL_law_2235 : decode cL_law 2235 = .ok (.lcmp, 1) := by decide +kernel
theorem dL_law_2236 : decode cL_law 2236 = .ok (.ifCond .eq 5, 3) := by decide +kernel
theorem dL_law_2239 : decode cL_law 2239 = .ok (.iconst 0, 1) := by decide +kernel
theorem dL_law_2240 : decode cL_law 2240 = .ok (.ireturn, 1) := by decide +kernel
theorem dL_law_2241 : decode cL_law 2241 = .ok (.goto 141, 3) := by decide +kernel
theorem dL_law_2244 : decode cL_law 2244 = .ok (.aload_n 1, 1) := by decide +kernel
theorem dL_law_2245 : decode cL_law 2245 = .ok (.aload_n 0, 1) := by decide +kernel
theorem dL_law_2246 : decode cL_law 2246 = .ok (.iload 4, 2) := by decide +kernel
theorem dL_law_2248 : decode cL_law 2248 = .ok (.iconst 1, 1) := by decide +kernel
theorem dL_law_2249 : decode cL_law 2249 = .ok (.iadd, 1) := by decide +kernel
theorem dL_law_2250 : decode cL_law 2250 = .ok (.iaload, 1) := by decide +kernel
theorem dL_law_2251 : decode cL_law 2251 = .ok (.aload_n 0, 1) := by decide +kernel
theorem dL_law_2252 : decode cL_law 2252 = .ok (.iload 4, 2) := by decide +kernel
theorem dL_law_2254 : decode cL_law 2254 = .ok (.iconst 2, 1) := by decide +kernel
theorem dL_law_2255 : decode cL_law 2255 = .ok (.iadd, 1) := by decide +kernel
theorem dL_law_2256 : decode cL_law 2256 = .ok (.iaload, 1) := by decide +kernel
theorem dL_law_2257 : decode cL_law 2257 = .ok (.aload_n 0, 1) := by decide +kernel
theorem dL_law_2258 : decode cL_law 2258 = .ok (.iload 4, 2) := by decide +kernel
theorem dL_law_2260 : decode cL_law 2260 = .ok (.iconst 3, 1) := by decide +kernel
theorem dL_law_2261 : decode cL_law 2261 = .ok (.iadd, 1) := by decide +kernel
theorem dL_law_2262 : decode cL_law 2262 = .ok (.iaload, 1) := by decide +kernel
theorem dL_law_2263 : decode cL_law 2263 = .ok (.aload_n 3, 1) := by decide +kernel
theorem dL_law_2264 : decode cL_law 2264 = .ok (.invokestatic 209, 3) := by decide +kernel
theorem dL_law_2267 : decode cL_law 2267 = .ok (.istore 5, 2) := by decide +kernel
theorem dL_law_2269 : decode cL_law 2269 = .ok (.aload_n 2, 1) := by decide +kernel
theorem dL_law_2270 : decode cL_law 2270 = .ok (.aload_n 0, 1) := by decide +kernel
theorem dL_law_2271 : decode cL_law 2271 = .ok (.iload 4, 2) := by decide +kernel
theorem dL_law_2273 : decode cL_law 2273 = .ok (.iconst 1, 1) := by decide +kernel
theorem dL_law_2274 : decode cL_law 2274 = .ok (.iadd, 1) := by decide +kernel
theorem dL_law_2275 : decode cL_law 2275 = .ok (.iaload, 1) := by decide +kernel
theorem dL_law_2276 : decode cL_law 2276 = .ok (.aload_n 0, 1) := by decide +kernel
theorem dL_law_2277 : decode cL_law 2277 = .ok (.iload 4, 2) := by decide +kernel
theorem dL_law_2279 : decode cL_law 2279 = .ok (.iconst 2, 1) := by decide +kernel
theorem dL_law_2280 : decode cL_law 2280 = .ok (.iadd, 1) := by decide +kernel
theorem dL_law_2281 : decode cL_law 2281 = .ok (.iaload, 1) := by decide +kernel
theorem dL_law_2282 : decode cL_law 2282 = .ok (.aload_n 0, 1) := by decide +kernel
theorem dL_law_2283 : decode cL_law 2283 = .ok (.iload 4, 2) := by decide +kernel
theorem dL_law_2285 : decode cL_law 2285 = .ok (.iconst 3, 1) := by decide +kernel
theorem dL_law_2286 : decode cL_law 2286 = .ok (.iadd, 1) := by decide +kernel
theorem dL_law_2287 : decode cL_law 2287 = .ok (.iaload, 1) := by decide +kernel
theorem dL_law_2288 : decode cL_law 2288 = .ok (.invokevirtual 211, 3) := by decide +kernel
theorem dL_law_2291 : decode cL_law 2291 = .ok (.istore 6, 2) := by decide +kernel
theorem dL_law_2293 : decode cL_law 2293 = .ok (.aload_n 2, 1) := by decide +kernel
theorem dL_law_2294 : decode cL_law 2294 = .ok (.invokevirtual 118, 3) := by decide +kernel
theorem dL_law_2297 : decode cL_law 2297 = .ok (.iload 5, 2) := by decide +kernel
theorem dL_law_2299 : decode cL_law 2299 = .ok (.if_icmp .eq 5, 3) := by decide +kernel
theorem dL_law_2302 : decode cL_law 2302 = .ok (.iconst 0, 1) := by decide +kernel
theorem dL_law_2303 : decode cL_law 2303 = .ok (.ireturn, 1) := by decide +kernel
theorem dL_law_2304 : decode cL_law 2304 = .ok (.iload 5, 2) := by decide +kernel
theorem dL_law_2306 : decode cL_law 2306 = .ok (.ifCond .ne 15, 3) := by decide +kernel
theorem dL_law_2309 : decode cL_law 2309 = .ok (.aload_n 3, 1) := by decide +kernel
theorem dL_law_2310 : decode cL_law 2310 = .ok (.iconst 0, 1) := by decide +kernel
theorem dL_law_2311 : decode cL_law 2311 = .ok (.laload, 1) := by decide +kernel
theorem dL_law_2312 : decode cL_law 2312 = .ok (.iload 6, 2) := by decide +kernel
theorem dL_law_2314 : decode cL_law 2314 = .ok (.i2l, 1) := by decide +kernel
theorem dL_law_2315 : decode cL_law 2315 = .ok (.lcmp, 1) := by decide +kernel
theorem dL_law_2316 : decode cL_law 2316 = .ok (.ifCond .eq 5, 3) := by decide +kernel
theorem dL_law_2319 : decode cL_law 2319 = .ok (.iconst 0, 1) := by decide +kernel
theorem dL_law_2320 : decode cL_law 2320 = .ok (.ireturn, 1) := by decide +kernel
theorem dL_law_2321 : decode cL_law 2321 = .ok (.goto 61, 3) := by decide +kernel
theorem dL_law_2324 : decode cL_law 2324 = .ok (.aload_n 1, 1) := by decide +kernel
theorem dL_law_2325 : decode cL_law 2325 = .ok (.aload_n 3, 1) := by decide +kernel
theorem dL_law_2326 : decode cL_law 2326 = .ok (.invokestatic 212, 3) := by decide +kernel
theorem dL_law_2329 : decode cL_law 2329 = .ok (.istore 5, 2) := by decide +kernel
theorem dL_law_2331 : decode cL_law 2331 = .ok (.aload_n 2, 1) := by decide +kernel
theorem dL_law_2332 : decode cL_law 2332 = .ok (.invokevirtual 215, 3) := by decide +kernel
theorem dL_law_2335 : decode cL_law 2335 = .ok (.istore 6, 2) := by decide +kernel
theorem dL_law_2337 : decode cL_law 2337 = .ok (.aload_n 2, 1) := by decide +kernel
theorem dL_law_2338 : decode cL_law 2338 = .ok (.invokevirtual 118, 3) := by decide +kernel
theorem dL_law_2341 : decode cL_law 2341 = .ok (.iload 5, 2) := by decide +kernel
theorem dL_law_2343 : decode cL_law 2343 = .ok (.if_icmp .eq 5, 3) := by decide +kernel
theorem dL_law_2346 : decode cL_law 2346 = .ok (.iconst 0, 1) := by decide +kernel
theorem dL_law_2347 : decode cL_law 2347 = .ok (.ireturn, 1) := by decide +kernel
theorem dL_law_2348 : decode cL_law 2348 = .ok (.iload 5, 2) := by decide +kernel
theorem dL_law_2350 : decode cL_law 2350 = .ok (.ifCond .ne 15, 3) := by decide +kernel
theorem dL_law_2353 : decode cL_law 2353 = .ok (.aload_n 3, 1) := by decide +kernel
theorem dL_law_2354 : decode cL_law 2354 = .ok (.iconst 0, 1) := by decide +kernel
theorem dL_law_2355 : decode cL_law 2355 = .ok (.laload, 1) := by decide +kernel
theorem dL_law_2356 : decode cL_law 2356 = .ok (.iload 6, 2) := by decide +kernel
theorem dL_law_2358 : decode cL_law 2358 = .ok (.i2l, 1) := by decide +kernel
theorem dL_law_2359 : decode cL_law 2359 = .ok (.lcmp, 1) := by decide +kernel
theorem dL_law_2360 : decode cL_law 2360 = .ok (.ifCond .eq 5, 3) := by decide +kernel
theorem dL_law_2363 : decode cL_law 2363 = .ok (.iconst 0, 1) := by decide +kernel
theorem dL_law_2364 : decode cL_law 2364 = .ok (.ireturn, 1) := by decide +kernel
theorem dL_law_2365 : decode cL_law 2365 = .ok (.goto 17, 3) := by decide +kernel
theorem dL_law_2368 : decode cL_law 2368 = .ok (.aload_n 1, 1) := by decide +kernel
theorem dL_law_2369 : decode cL_law 2369 = .ok (.invokevirtual 216, 3) := by decide +kernel
theorem dL_law_2372 : decode cL_law 2372 = .ok (.aload_n 2, 1) := by decide +kernel
theorem dL_law_2373 : decode cL_law 2373 = .ok (.invokevirtual 220, 3) := by decide +kernel
theorem dL_law_2376 : decode cL_law 2376 = .ok (.lcmp, 1) := by decide +kernel
theorem dL_law_2377 : decode cL_law 2377 = .ok (.ifCond .eq 5, 3) := by decide +kernel
theorem dL_law_2380 : decode cL_law 2380 = .ok (.iconst 0, 1) := by decide +kernel
theorem dL_law_2381 : decode cL_law 2381 = .ok (.ireturn, 1) := by decide +kernel
theorem dL_law_2382 : decode cL_law 2382 = .ok (.iinc 4 6, 3) := by decide +kernel
theorem dL_law_2385 : decode cL_law 2385 = .ok (.goto (-2362), 3) := by decide +kernel
theorem dL_law_2388 : decode cL_law 2388 = .ok (.iconst 1, 1) := by decide +kernel
theorem dL_law_2389 : decode cL_law 2389 = .ok (.ireturn, 1) := by decide +kernel
