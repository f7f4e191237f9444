theorem drL_law_2128 : ([(2128, .iaload, 1), (2129, (.invokevirtual 246), 3), (2132, (.aload_n 2), 1), (2133, (.invokevirtual 150), 3), (2136, (.iload 5), 2), (2138, (.if_icmp .eq 5), 3), (2141, (.iconst 0), 1), (2143, (.goto 639), 3), (2146, (.aload_n 1), 1), (2147, (.aload_n 0), 1), (2148, (.iload 4), 2), (2150, (.iconst 1), 1), (2151, .iadd, 1), (2152, .iaload, 1), (2153, (.aload_n 0), 1), (2154, (.iload 4), 2), (2156, (.iconst 2), 1), (2157, .iadd, 1), (2158, .iaload, 1), (2159, (.aload_n 3), 1), (2160, (.invokestatic 247), 3), (2163, (.istore 5), 2), (2165, (.aload_n 2), 1), (2166, (.aload_n 0), 1), (2167, (.iload 4), 2), (2169, (.iconst 1), 1), (2170, .iadd, 1), (2171, .iaload, 1), (2172, (.aload_n 0), 1), (2173, (.iload 4), 2), (2175, (.iconst 2), 1), (2176, .iadd, 1), (2177, .iaload, 1), (2178, (.invokevirtual 249), 3), (2181, (.istore 6), 2), (2183, (.aload_n 2), 1), (2184, (.invokevirtual 150), 3)] : List (Nat × Instr × Nat)).all (fun q => decide (decode code q.1 = .ok q.2)) = true := by decide +kernel
theorem dL_2128 : dc code 2128 2129 .iaload 1 := ⟨dr_at drL_law_2128 (i := 0) rfl, rfl⟩
theorem dL_2129 : dc code 2129 2132 (.invokevirtual 246) 3 := ⟨dr_at drL_law_2128 (i := 1) rfl, rfl⟩
theorem dL_2132 : dc code 2132 2133 (.aload_n 2) 1 := ⟨dr_at drL_law_2128 (i := 2) rfl, rfl⟩
theorem dL_2133 : dc code 2133 2136 (.invokevirtual 150) 3 := ⟨dr_at drL_law_2128 (i := 3) rfl, rfl⟩
theorem dL_2136 : dc code 2136 2138 (.iload 5) 2 := ⟨dr_at drL_law_2128 (i := 4) rfl, rfl⟩
theorem dL_2138 : dc code 2138 2141 (.if_icmp .eq 5) 3 := ⟨dr_at drL_law_2128 (i := 5) rfl, rfl⟩
theorem dL_2141 : dc code 2141 2142 (.iconst 0) 1 := ⟨dr_at drL_law_2128 (i := 6) rfl, rfl⟩
theorem dL_2143 : dc code 2143 2146 (.goto 639) 3 := ⟨dr_at drL_law_2128 (i := 7) rfl, rfl⟩
theorem dL_2146 : dc code 2146 2147 (.aload_n 1) 1 := ⟨dr_at drL_law_2128 (i := 8) rfl, rfl⟩
theorem dL_2147 : dc code 2147 2148 (.aload_n 0) 1 := ⟨dr_at drL_law_2128 (i := 9) rfl, rfl⟩
theorem dL_2148 : dc code 2148 2150 (.iload 4) 2 := ⟨dr_at drL_law_2128 (i := 10) rfl, rfl⟩
theorem dL_2150 : dc code 2150 2151 (.iconst 1) 1 := ⟨dr_at drL_law_2128 (i := 11) rfl, rfl⟩
theorem dL_2151 : dc code 2151 2152 .iadd 1 := ⟨dr_at drL_law_2128 (i := 12) rfl, rfl⟩
theorem dL_2152 : dc code 2152 2153 .iaload 1 := ⟨dr_at drL_law_2128 (i := 13) rfl, rfl⟩
theorem dL_2153 : dc code 2153 2154 (.aload_n 0) 1 := ⟨dr_at drL_law_2128 (i := 14) rfl, rfl⟩
theorem dL_2154 : dc code 2154 2156 (.iload 4) 2 := ⟨dr_at drL_law_2128 (i := 15) rfl, rfl⟩
theorem dL_2156 : dc code 2156 2157 (.iconst 2) 1 := ⟨dr_at drL_law_2128 (i := 16) rfl, rfl⟩
theorem dL_2157 : dc code 2157 2158 .iadd 1 := ⟨dr_at drL_law_2128 (i := 17) rfl, rfl⟩
theorem dL_2158 : dc code 2158 2159 .iaload 1 := ⟨dr_at drL_law_2128 (i := 18) rfl, rfl⟩
theorem dL_2159 : dc code 2159 2160 (.aload_n 3) 1 := ⟨dr_at drL_law_2128 (i := 19) rfl, rfl⟩
theorem dL_2160 : dc code 2160 2163 (.invokestatic 247) 3 := ⟨dr_at drL_law_2128 (i := 20) rfl, rfl⟩
theorem dL_2163 : dc code 2163 2165 (.istore 5) 2 := ⟨dr_at drL_law_2128 (i := 21) rfl, rfl⟩
theorem dL_2165 : dc code 2165 2166 (.aload_n 2) 1 := ⟨dr_at drL_law_2128 (i := 22) rfl, rfl⟩
theorem dL_2166 : dc code 2166 2167 (.aload_n 0) 1 := ⟨dr_at drL_law_2128 (i := 23) rfl, rfl⟩
theorem dL_2167 : dc code 2167 2169 (.iload 4) 2 := ⟨dr_at drL_law_2128 (i := 24) rfl, rfl⟩
theorem dL_2169 : dc code 2169 2170 (.iconst 1) 1 := ⟨dr_at drL_law_2128 (i := 25) rfl, rfl⟩
theorem dL_2170 : dc code 2170 2171 .iadd 1 := ⟨dr_at drL_law_2128 (i := 26) rfl, rfl⟩
theorem dL_2171 : dc code 2171 2172 .iaload 1 := ⟨dr_at drL_law_2128 (i := 27) rfl, rfl⟩
theorem dL_2172 : dc code 2172 2173 (.aload_n 0) 1 := ⟨dr_at drL_law_2128 (i := 28) rfl, rfl⟩
theorem dL_2173 : dc code 2173 2175 (.iload 4) 2 := ⟨dr_at drL_law_2128 (i := 29) rfl, rfl⟩
theorem dL_2175 : dc code 2175 2176 (.iconst 2) 1 := ⟨dr_at drL_law_2128 (i := 30) rfl, rfl⟩
theorem dL_2176 : dc code 2176 2177 .iadd 1 := ⟨dr_at drL_law_2128 (i := 31) rfl, rfl⟩
theorem dL_2177 : dc code 2177 2178 .iaload 1 := ⟨dr_at drL_law_2128 (i := 32) rfl, rfl⟩
theorem dL_2178 : dc code 2178 2181 (.invokevirtual 249) 3 := ⟨dr_at drL_law_2128 (i := 33) rfl, rfl⟩
theorem dL_2181 : dc code 2181 2183 (.istore 6) 2 := ⟨dr_at drL_law_2128 (i := 34) rfl, rfl⟩
theorem dL_2183 : dc code 2183 2184 (.aload_n 2) 1 := ⟨dr_at drL_law_2128 (i := 35) rfl, rfl⟩
theorem dL_2184 : dc code 2184 2187 (.invokevirtual 150) 3 := ⟨dr_at drL_law_2128 (i := 36) rfl, rfl⟩
theorem drL_law_2187 : ([(2187, (.iload 5), 2), (2189, (.if_icmp .eq 5), 3), (2192, (.iconst 0), 1), (2194, (.iload 5), 2), (2196, (.ifCond .ne 15), 3), (2199, (.aload_n 3), 1), (2200, (.iconst 0), 1), (2201, .laload, 1), (2202, (.iload 6), 2), (2204, .i2l, 1), (2205, .lcmp, 1), (2206, (.ifCond .eq 5), 3), (2209, (.iconst 0), 1), (2211, (.goto 571), 3), (2214, (.aload_n 1), 1), (2215, (.aload_n 0), 1), (2216, (.iload 4), 2), (2218, (.iconst 1), 1), (2219, .iadd, 1), (2220, .iaload, 1), (2221, (.aload_n 3), 1), (2222, (.invokestatic 250), 3), (2225, (.istore 5), 2), (2227, (.aload_n 2), 1), (2228, (.aload_n 0), 1), (2229, (.iload 4), 2), (2231, (.iconst 1), 1), (2232, .iadd, 1), (2233, .iaload, 1), (2234, (.invokevirtual 252), 3), (2237, (.istore 6), 2), (2239, (.aload_n 2), 1), (2240, (.invokevirtual 150), 3), (2243, (.iload 5), 2), (2245, (.if_icmp .eq 5), 3), (2248, (.iconst 0), 1)] : List (Nat × Instr × Nat)).all (fun q => decide (decode code q.1 = .ok q.2)) = true := by decide +kernel
theorem dL_2187 : dc code 2187 2189 (.iload 5) 2 := ⟨dr_at drL_law_2187 (i := 0) rfl, rfl⟩
theorem dL_2189 : dc code 2189 2192 (.if_icmp .eq 5) 3 := ⟨dr_at drL_law_2187 (i := 1) rfl, rfl⟩
theorem dL_2192 : dc code 2192 2193 (.iconst 0) 1 := ⟨dr_at drL_law_2187 (i := 2) rfl, rfl⟩
theorem dL_2194 : dc code 2194 2196 (.iload 5) 2 := ⟨dr_at drL_law_2187 (i := 3) rfl, rfl⟩
theorem dL_2196 : dc code 2196 2199 (.ifCond .ne 15) 3 := ⟨dr_at drL_law_2187 (i := 4) rfl, rfl⟩
theorem dL_2199 : dc code 2199 2200 (.aload_n 3) 1 := ⟨dr_at drL_law_2187 (i := 5) rfl, rfl⟩
theorem dL_2200 : dc code 2200 2201 (.iconst 0) 1 := ⟨dr_at drL_law_2187 (i := 6) rfl, rfl⟩
theorem dL_2201 : dc code 2201 2202 .laload 1 := ⟨dr_at drL_law_2187 (i := 7) rfl, rfl⟩
theorem dL_2202 : dc code 2202 2204 (.iload 6) 2 := ⟨dr_at drL_law_2187 (i := 8) rfl, rfl⟩
theorem dL_2204 : dc code 2204 2205 .i2l 1 := ⟨dr_at drL_law_2187 (i := 9) rfl, rfl⟩
theorem dL_2205 : dc code 2205 2206 .lcmp 1 := ⟨dr_at drL_law_2187 (i := 10) rfl, rfl⟩
theorem dL_2206 : dc code 2206 2209 (.ifCond .eq 5) 3 := ⟨dr_at drL_law_2187 (i := 11) rfl, rfl⟩
theorem dL_2209 : dc code 2209 2210 (.iconst 0) 1 := ⟨dr_at drL_law_2187 (i := 12) rfl, rfl⟩
theorem dL_2211 : dc code 2211 2214 (.goto 571) 3 := ⟨dr_at drL_law_2187 (i := 13) rfl, rfl⟩
theorem dL_2214 : dc code 2214 2215 (.aload_n 1) 1 := ⟨dr_at drL_law_2187 (i := 14) rfl, rfl⟩
theorem dL_2215 : dc code 2215 2216 (.aload_n 0) 1 := ⟨dr_at drL_law_2187 (i := 15) rfl, rfl⟩
theorem dL_2216 : dc code 2216 2218 (.iload 4) 2 := ⟨dr_at drL_law_2187 (i := 16) rfl, rfl⟩
theorem dL_2218 : dc code 2218 2219 (.iconst 1) 1 := ⟨dr_at drL_law_2187 (i := 17) rfl, rfl⟩
theorem dL_2219 : dc code 2219 2220 .iadd 1 := ⟨dr_at drL_law_2187 (i := 18) rfl, rfl⟩
theorem dL_2220 : dc code 2220 2221 .iaload 1 := ⟨dr_at drL_law_2187 (i := 19) rfl, rfl⟩
theorem dL_2221 : dc code 2221 2222 (.aload_n 3) 1 := ⟨dr_at drL_law_2187 (i := 20) rfl, rfl⟩
theorem dL_2222 : dc code 2222 2225 (.invokestatic 250) 3 := ⟨dr_at drL_law_2187 (i := 21) rfl, rfl⟩
theorem dL_2225 : dc code 2225 2227 (.istore 5) 2 := ⟨dr_at drL_law_2187 (i := 22) rfl, rfl⟩
theorem dL_2227 : dc code 2227 2228 (.aload_n 2) 1 := ⟨dr_at drL_law_2187 (i := 23) rfl, rfl⟩
theorem dL_2228 : dc code 2228 2229 (.aload_n 0) 1 := ⟨dr_at drL_law_2187 (i := 24) rfl, rfl⟩
theorem dL_2229 : dc code 2229 2231 (.iload 4) 2 := ⟨dr_at drL_law_2187 (i := 25) rfl, rfl⟩
theorem dL_2231 : dc code 2231 2232 (.iconst 1) 1 := ⟨dr_at drL_law_2187 (i := 26) rfl, rfl⟩
theorem dL_2232 : dc code 2232 2233 .iadd 1 := ⟨dr_at drL_law_2187 (i := 27) rfl, rfl⟩
theorem dL_2233 : dc code 2233 2234 .iaload 1 := ⟨dr_at drL_law_2187 (i := 28) rfl, rfl⟩
theorem dL_2234 : dc code 2234 2237 (.invokevirtual 252) 3 := ⟨dr_at drL_law_2187 (i := 29) rfl, rfl⟩
theorem dL_2237 : dc code 2237 2239 (.istore 6) 2 := ⟨dr_at drL_law_2187 (i := 30) rfl, rfl⟩
theorem dL_2239 : dc code 2239 2240 (.aload_n 2) 1 := ⟨dr_at drL_law_2187 (i := 31) rfl, rfl⟩
theorem dL_2240 : dc code 2240 2243 (.invokevirtual 150) 3 := ⟨dr_at drL_law_2187 (i := 32) rfl, rfl⟩
theorem dL_2243 : dc code 2243 2245 (.iload 5) 2 := ⟨dr_at drL_law_2187 (i := 33) rfl, rfl⟩
theorem dL_2245 : dc code 2245 2248 (.if_icmp .eq 5) 3 := ⟨dr_at drL_law_2187 (i := 34) rfl, rfl⟩
theorem dL_2248 : dc code 2248 2249 (.iconst 0) 1 := ⟨dr_at drL_law_2187 (i := 35) rfl, rfl⟩
theorem drL_law_2250 : ([(2250, (.iload 5), 2), (2252, (.ifCond .ne 15), 3), (2255, (.aload_n 3), 1), (2256, (.iconst 0), 1), (2257, .laload, 1), (2258, (.iload 6), 2), (2260, .i2l, 1), (2261, .lcmp, 1), (2262, (.ifCond .eq 5), 3), (2265, (.iconst 0), 1), (2267, (.goto 515), 3), (2270, (.aload_n 1), 1), (2271, (.aload_n 0), 1), (2272, (.iload 4), 2), (2274, (.iconst 1), 1), (2275, .iadd, 1), (2276, .iaload, 1), (2277, (.aload_n 3), 1), (2278, (.invokestatic 253), 3), (2281, (.istore 5), 2), (2283, (.aload_n 2), 1), (2284, (.aload_n 0), 1), (2285, (.iload 4), 2), (2287, (.iconst 1), 1), (2288, .iadd, 1), (2289, .iaload, 1), (2290, (.invokevirtual 255), 3), (2293, (.istore 6), 2), (2295, (.aload_n 2), 1), (2296, (.invokevirtual 150), 3), (2299, (.iload 5), 2), (2301, (.if_icmp .eq 5), 3), (2304, (.iconst 0), 1), (2306, (.iload 5), 2), (2308, (.ifCond .ne 15), 3)] : List (Nat × Instr × Nat)).all (fun q => decide (decode code q.1 = .ok q.2)) = true := by decide +kernel
theorem dL_2250 : dc code 2250 2252 (.iload 5) 2 := ⟨dr_at drL_law_2250 (i := 0) rfl, rfl⟩
theorem dL_2252 : dc code 2252 2255 (.ifCond .ne 15) 3 := ⟨dr_at drL_law_2250 (i := 1) rfl, rfl⟩
theorem dL_2255 : dc code 2255 2256 (.aload_n 3) 1 := ⟨dr_at drL_law_2250 (i := 2) rfl, rfl⟩
theorem dL_2256 : dc code 2256 2257 (.iconst 0) 1 := ⟨dr_at drL_law_2250 (i := 3) rfl, rfl⟩
theorem dL_2257 : dc code 2257 2258 .laload 1 := ⟨dr_at drL_law_2250 (i := 4) rfl, rfl⟩
theorem dL_2258 : dc code 2258 2260 (.iload 6) 2 := ⟨dr_at drL_law_2250 (i := 5) rfl, rfl⟩
theorem dL_2260 : dc code 2260 2261 .i2l 1 := ⟨dr_at drL_law_2250 (i := 6) rfl, rfl⟩
theorem dL_2261 : dc code 2261 2262 .lcmp 1 := ⟨dr_at drL_law_2250 (i := 7) rfl, rfl⟩
theorem dL_2262 : dc code 2262 2265 (.ifCond .eq 5) 3 := ⟨dr_at drL_law_2250 (i := 8) rfl, rfl⟩
theorem dL_2265 : dc code 2265 2266 (.iconst 0) 1 := ⟨dr_at drL_law_2250 (i := 9) rfl, rfl⟩
theorem dL_2267 : dc code 2267 2270 (.goto 515) 3 := ⟨dr_at drL_law_2250 (i := 10) rfl, rfl⟩
theorem dL_2270 : dc code 2270 2271 (.aload_n 1) 1 := ⟨dr_at drL_law_2250 (i := 11) rfl, rfl⟩
theorem dL_2271 : dc code 2271 2272 (.aload_n 0) 1 := ⟨dr_at drL_law_2250 (i := 12) rfl, rfl⟩
theorem dL_2272 : dc code 2272 2274 (.iload 4) 2 := ⟨dr_at drL_law_2250 (i := 13) rfl, rfl⟩
theorem dL_2274 : dc code 2274 2275 (.iconst 1) 1 := ⟨dr_at drL_law_2250 (i := 14) rfl, rfl⟩
theorem dL_2275 : dc code 2275 2276 .iadd 1 := ⟨dr_at drL_law_2250 (i := 15) rfl, rfl⟩
theorem dL_2276 : dc code 2276 2277 .iaload 1 := ⟨dr_at drL_law_2250 (i := 16) rfl, rfl⟩
theorem dL_2277 : dc code 2277 2278 (.aload_n 3) 1 := ⟨dr_at drL_law_2250 (i := 17) rfl, rfl⟩
theorem dL_2278 : dc code 2278 2281 (.invokestatic 253) 3 := ⟨dr_at drL_law_2250 (i := 18) rfl, rfl⟩
theorem dL_2281 : dc code 2281 2283 (.istore 5) 2 := ⟨dr_at drL_law_2250 (i := 19) rfl, rfl⟩
theorem dL_2283 : dc code 2283 2284 (.aload_n 2) 1 := ⟨dr_at drL_law_2250 (i := 20) rfl, rfl⟩
theorem dL_2284 : dc code 2284 2285 (.aload_n 0) 1 := ⟨dr_at drL_law_2250 (i := 21) rfl, rfl⟩
theorem dL_2285 : dc code 2285 2287 (.iload 4) 2 := ⟨dr_at drL_law_2250 (i := 22) rfl, rfl⟩
theorem dL_2287 : dc code 2287 2288 (.iconst 1) 1 := ⟨dr_at drL_law_2250 (i := 23) rfl, rfl⟩
theorem dL_2288 : dc code 2288 2289 .iadd 1 := ⟨dr_at drL_law_2250 (i := 24) rfl, rfl⟩
theorem dL_2289 : dc code 2289 2290 .iaload 1 := ⟨dr_at drL_law_2250 (i := 25) rfl, rfl⟩
theorem dL_2290 : dc code 2290 2293 (.invokevirtual 255) 3 := ⟨dr_at drL_law_2250 (i := 26) rfl, rfl⟩
theorem dL_2293 : dc code 2293 2295 (.istore 6) 2 := ⟨dr_at drL_law_2250 (i := 27) rfl, rfl⟩
theorem dL_2295 : dc code 2295 2296 (.aload_n 2) 1 := ⟨dr_at drL_law_2250 (i := 28) rfl, rfl⟩
theorem dL_2296 : dc code 2296 2299 (.invokevirtual 150) 3 := ⟨dr_at drL_law_2250 (i := 29) rfl, rfl⟩
theorem dL_2299 : dc code 2299 2301 (.iload 5) 2 := ⟨dr_at drL_law_2250 (i := 30) rfl, rfl⟩
theorem dL_2301 : dc code 2301 2304 (.if_icmp .eq 5) 3 := ⟨dr_at drL_law_2250 (i := 31) rfl, rfl⟩
theorem dL_2304 : dc code 2304 2305 (.iconst 0) 1 := ⟨dr_at drL_law_2250 (i := 32) rfl, rfl⟩
theorem dL_2306 : dc code 2306 2308 (.iload 5) 2 := ⟨dr_at drL_law_2250 (i := 33) rfl, rfl⟩
theorem dL_2308 : dc code 2308 2311 (.ifCond .ne 15) 3 := ⟨dr_at drL_law_2250 (i := 34) rfl, rfl⟩
theorem drL_law_2311 : ([(2311, (.aload_n 3), 1), (2312, (.iconst 0), 1), (2313, .laload, 1), (2314, (.iload 6), 2), (2316, .i2l, 1), (2317, .lcmp, 1), (2318, (.ifCond .eq 5), 3), (2321, (.iconst 0), 1), (2323, (.goto 459), 3), (2326, (.aload_n 1), 1), (2327, (.aload_n 0), 1), (2328, (.iload 4), 2), (2330, (.iconst 1), 1), (2331, .iadd, 1), (2332, .iaload, 1), (2333, (.aload_n 3), 1), (2334, (.invokestatic 256), 3), (2337, (.istore 5), 2), (2339, (.aload_n 2), 1), (2340, (.aload_n 0), 1), (2341, (.iload 4), 2), (2343, (.iconst 1), 1), (2344, .iadd, 1), (2345, .iaload, 1), (2346, (.invokevirtual 258), 3), (2349, (.istore 6), 2), (2351, (.aload_n 2), 1), (2352, (.invokevirtual 150), 3), (2355, (.iload 5), 2), (2357, (.if_icmp .eq 5), 3), (2360, (.iconst 0), 1), (2362, (.iload 5), 2), (2364, (.ifCond .ne 22), 3), (2367, (.aload_n 3), 1)] : List (Nat × Instr × Nat)).all (fun q => decide (decode code q.1 = .ok q.2)) = true := by decide +kernel
theorem dL_2311 : dc code 2311 2312 (.aload_n 3) 1 := ⟨dr_at drL_law_2311 (i := 0) rfl, rfl⟩
theorem dL_2312 : dc code 2312 2313 (.iconst 0) 1 := ⟨dr_at drL_law_2311 (i := 1) rfl, rfl⟩
theorem dL_2313 : dc code 2313 2314 .laload 1 := ⟨dr_at drL_law_2311 (i := 2) rfl, rfl⟩
theorem dL_2314 : dc code 2314 2316 (.iload 6) 2 := ⟨dr_at drL_law_2311 (i := 3) rfl, rfl⟩
theorem dL_2316 : dc code 2316 2317 .i2l 1 := ⟨dr_at drL_law_2311 (i := 4) rfl, rfl⟩
theorem dL_2317 : dc code 2317 2318 .lcmp 1 := ⟨dr_at drL_law_2311 (i := 5) rfl, rfl⟩
theorem dL_2318 : dc code 2318 2321 (.ifCond .eq 5) 3 := ⟨dr_at drL_law_2311 (i := 6) rfl, rfl⟩
theorem dL_2321 : dc code 2321 2322 (.iconst 0) 1 := ⟨dr_at drL_law_2311 (i := 7) rfl, rfl⟩
theorem dL_2323 : dc code 2323 2326 (.goto 459) 3 := ⟨dr_at drL_law_2311 (i := 8) rfl, rfl⟩
theorem dL_2326 : dc code 2326 2327 (.aload_n 1) 1 := ⟨dr_at drL_law_2311 (i := 9) rfl, rfl⟩
theorem dL_2327 : dc code 2327 2328 (.aload_n 0) 1 := ⟨dr_at drL_law_2311 (i := 10) rfl, rfl⟩
theorem dL_2328 : dc code 2328 2330 (.iload 4) 2 := ⟨dr_at drL_law_2311 (i := 11) rfl, rfl⟩
theorem dL_2330 : dc code 2330 2331 (.iconst 1) 1 := ⟨dr_at drL_law_2311 (i := 12) rfl, rfl⟩
theorem dL_2331 : dc code 2331 2332 .iadd 1 := ⟨dr_at drL_law_2311 (i := 13) rfl, rfl⟩
theorem dL_2332 : dc code 2332 2333 .iaload 1 := ⟨dr_at drL_law_2311 (i := 14) rfl, rfl⟩
theorem dL_2333 : dc code 2333 2334 (.aload_n 3) 1 := ⟨dr_at drL_law_2311 (i := 15) rfl, rfl⟩
theorem dL_2334 : dc code 2334 2337 (.invokestatic 256) 3 := ⟨dr_at drL_law_2311 (i := 16) rfl, rfl⟩
theorem dL_2337 : dc code 2337 2339 (.istore 5) 2 := ⟨dr_at drL_law_2311 (i := 17) rfl, rfl⟩
theorem dL_2339 : dc code 2339 2340 (.aload_n 2) 1 := ⟨dr_at drL_law_2311 (i := 18) rfl, rfl⟩
theorem dL_2340 : dc code 2340 2341 (.aload_n 0) 1 := ⟨dr_at drL_law_2311 (i := 19) rfl, rfl⟩
theorem dL_2341 : dc code 2341 2343 (.iload 4) 2 := ⟨dr_at drL_law_2311 (i := 20) rfl, rfl⟩
theorem dL_2343 : dc code 2343 2344 (.iconst 1) 1 := ⟨dr_at drL_law_2311 (i := 21) rfl, rfl⟩
theorem dL_2344 : dc code 2344 2345 .iadd 1 := ⟨dr_at drL_law_2311 (i := 22) rfl, rfl⟩
theorem dL_2345 : dc code 2345 2346 .iaload 1 := ⟨dr_at drL_law_2311 (i := 23) rfl, rfl⟩
theorem dL_2346 : dc code 2346 2349 (.invokevirtual 258) 3 := ⟨dr_at drL_law_2311 (i := 24) rfl, rfl⟩
theorem dL_2349 : dc code 2349 2351 (.istore 6) 2 := ⟨dr_at drL_law_2311 (i := 25) rfl, rfl⟩
theorem dL_2351 : dc code 2351 2352 (.aload_n 2) 1 := ⟨dr_at drL_law_2311 (i := 26) rfl, rfl⟩
theorem dL_2352 : dc code 2352 2355 (.invokevirtual 150) 3 := ⟨dr_at drL_law_2311 (i := 27) rfl, rfl⟩
theorem dL_2355 : dc code 2355 2357 (.iload 5) 2 := ⟨dr_at drL_law_2311 (i := 28) rfl, rfl⟩
theorem dL_2357 : dc code 2357 2360 (.if_icmp .eq 5) 3 := ⟨dr_at drL_law_2311 (i := 29) rfl, rfl⟩
theorem dL_2360 : dc code 2360 2361 (.iconst 0) 1 := ⟨dr_at drL_law_2311 (i := 30) rfl, rfl⟩
theorem dL_2362 : dc code 2362 2364 (.iload 5) 2 := ⟨dr_at drL_law_2311 (i := 31) rfl, rfl⟩
theorem dL_2364 : dc code 2364 2367 (.ifCond .ne 22) 3 := ⟨dr_at drL_law_2311 (i := 32) rfl, rfl⟩
theorem dL_2367 : dc code 2367 2368 (.aload_n 3) 1 := ⟨dr_at drL_law_2311 (i := 33) rfl, rfl⟩
theorem drL_law_2368 : ([(2368, (.iconst 0), 1), (2369, .laload, 1), (2370, (.iload 6), 2), (2372, (.ifCond .eq 7), 3), (2375, (.lconst 1), 1), (2376, (.goto 4), 3), (2379, (.lconst 0), 1), (2380, .lcmp, 1), (2381, (.ifCond .eq 5), 3), (2384, (.iconst 0), 1), (2386, (.goto 396), 3), (2389, (.aload_n 1), 1), (2390, (.aload_n 0), 1), (2391, (.iload 4), 2), (2393, (.iconst 1), 1), (2394, .iadd, 1), (2395, .iaload, 1), (2396, (.aload_n 0), 1), (2397, (.iload 4), 2), (2399, (.iconst 2), 1), (2400, .iadd, 1), (2401, .iaload, 1), (2402, (.aload_n 3), 1), (2403, (.invokestatic 259), 3), (2406, (.istore 5), 2), (2408, (.aload_n 2), 1), (2409, (.aload_n 0), 1), (2410, (.iload 4), 2), (2412, (.iconst 1), 1), (2413, .iadd, 1), (2414, .iaload, 1), (2415, (.aload_n 0), 1), (2416, (.iload 4), 2)] : List (Nat × Instr × Nat)).all (fun q => decide (decode code q.1 = .ok q.2)) = true := by decide +kernel
theorem dL_2368 : dc code 2368 2369 (.iconst 0) 1 := ⟨dr_at drL_law_2368 (i := 0) rfl, rfl⟩
theorem dL_2369 : dc code 2369 2370 .laload 1 := ⟨dr_at drL_law_2368 (i := 1) rfl, rfl⟩
theorem dL_2370 : dc code 2370 2372 (.iload 6) 2 := ⟨dr_at drL_law_2368 (i := 2) rfl, rfl⟩
theorem dL_2372 : dc code 2372 2375 (.ifCond .eq 7) 3 := ⟨dr_at drL_law_2368 (i := 3) rfl, rfl⟩
theorem dL_2375 : dc code 2375 2376 (.lconst 1) 1 := ⟨dr_at drL_law_2368 (i := 4) rfl, rfl⟩
theorem dL_2376 : dc code 2376 2379 (.goto 4) 3 := ⟨dr_at drL_law_2368 (i := 5) rfl, rfl⟩
theorem dL_2379 : dc code 2379 2380 (.lconst 0) 1 := ⟨dr_at drL_law_2368 (i := 6) rfl, rfl⟩
theorem dL_2380 : dc code 2380 2381 .lcmp 1 := ⟨dr_at drL_law_2368 (i := 7) rfl, rfl⟩
theorem dL_2381 : dc code 2381 2384 (.ifCond .eq 5) 3 := ⟨dr_at drL_law_2368 (i := 8) rfl, rfl⟩
theorem dL_2384 : dc code 2384 2385 (.iconst 0) 1 := ⟨dr_at drL_law_2368 (i := 9) rfl, rfl⟩
theorem dL_2386 : dc code 2386 2389 (.goto 396) 3 := ⟨dr_at drL_law_2368 (i := 10) rfl, rfl⟩
theorem dL_2389 : dc code 2389 2390 (.aload_n 1) 1 := ⟨dr_at drL_law_2368 (i := 11) rfl, rfl⟩
theorem dL_2390 : dc code 2390 2391 (.aload_n 0) 1 := ⟨dr_at drL_law_2368 (i := 12) rfl, rfl⟩
theorem dL_2391 : dc code 2391 2393 (.iload 4) 2 := ⟨dr_at drL_law_2368 (i := 13) rfl, rfl⟩
theorem dL_2393 : dc code 2393 2394 (.iconst 1) 1 := ⟨dr_at drL_law_2368 (i := 14) rfl, rfl⟩
theorem dL_2394 : dc code 2394 2395 .iadd 1 := ⟨dr_at drL_law_2368 (i := 15) rfl, rfl⟩
theorem dL_2395 : dc code 2395 2396 .iaload 1 := ⟨dr_at drL_law_2368 (i := 16) rfl, rfl⟩
theorem dL_2396 : dc code 2396 2397 (.aload_n 0) 1 := ⟨dr_at drL_law_2368 (i := 17) rfl, rfl⟩
theorem dL_2397 : dc code 2397 2399 (.iload 4) 2 := ⟨dr_at drL_law_2368 (i := 18) rfl, rfl⟩
theorem dL_2399 : dc code 2399 2400 (.iconst 2) 1 := ⟨dr_at drL_law_2368 (i := 19) rfl, rfl⟩
theorem dL_2400 : dc code 2400 2401 .iadd 1 := ⟨dr_at drL_law_2368 (i := 20) rfl, rfl⟩
theorem dL_2401 : dc code 2401 2402 .iaload 1 := ⟨dr_at drL_law_2368 (i := 21) rfl, rfl⟩
theorem dL_2402 : dc code 2402 2403 (.aload_n 3) 1 := ⟨dr_at drL_law_2368 (i := 22) rfl, rfl⟩
theorem dL_2403 : dc code 2403 2406 (.invokestatic 259) 3 := ⟨dr_at drL_law_2368 (i := 23) rfl, rfl⟩
theorem dL_2406 : dc code 2406 2408 (.istore 5) 2 := ⟨dr_at drL_law_2368 (i := 24) rfl, rfl⟩
theorem dL_2408 : dc code 2408 2409 (.aload_n 2) 1 := ⟨dr_at drL_law_2368 (i := 25) rfl, rfl⟩
theorem dL_2409 : dc code 2409 2410 (.aload_n 0) 1 := ⟨dr_at drL_law_2368 (i := 26) rfl, rfl⟩
theorem dL_2410 : dc code 2410 2412 (.iload 4) 2 := ⟨dr_at drL_law_2368 (i := 27) rfl, rfl⟩
theorem dL_2412 : dc code 2412 2413 (.iconst 1) 1 := ⟨dr_at drL_law_2368 (i := 28) rfl, rfl⟩
theorem dL_2413 : dc code 2413 2414 .iadd 1 := ⟨dr_at drL_law_2368 (i := 29) rfl, rfl⟩
theorem dL_2414 : dc code 2414 2415 .iaload 1 := ⟨dr_at drL_law_2368 (i := 30) rfl, rfl⟩
theorem dL_2415 : dc code 2415 2416 (.aload_n 0) 1 := ⟨dr_at drL_law_2368 (i := 31) rfl, rfl⟩
theorem dL_2416 : dc code 2416 2418 (.iload 4) 2 := ⟨dr_at drL_law_2368 (i := 32) rfl, rfl⟩
theorem drL_law_2418 : ([(2418, (.iconst 2), 1), (2419, .iadd, 1), (2420, .iaload, 1), (2421, (.invokevirtual 261), 3), (2424, (.istore 6), 2), (2426, (.aload_n 2), 1), (2427, (.invokevirtual 150), 3), (2430, (.iload 5), 2), (2432, (.if_icmp .eq 5), 3), (2435, (.iconst 0), 1), (2437, (.iload 5), 2), (2439, (.ifCond .ne 15), 3), (2442, (.aload_n 3), 1), (2443, (.iconst 0), 1), (2444, .laload, 1), (2445, (.iload 6), 2), (2447, .i2l, 1), (2448, .lcmp, 1), (2449, (.ifCond .eq 5), 3), (2452, (.iconst 0), 1), (2454, (.goto 328), 3), (2457, (.aload_n 1), 1), (2458, (.aload_n 0), 1), (2459, (.iload 4), 2), (2461, (.iconst 1), 1), (2462, .iadd, 1), (2463, .iaload, 1), (2464, (.aload_n 0), 1), (2465, (.iload 4), 2), (2467, (.iconst 2), 1), (2468, .iadd, 1), (2469, .iaload, 1), (2470, (.aload_n 3), 1)] : List (Nat × Instr × Nat)).all (fun q => decide (decode code q.1 = .ok q.2)) = true := by decide +kernel
theorem dL_2418 : dc code 2418 2419 (.iconst 2) 1 := ⟨dr_at drL_law_2418 (i := 0) rfl, rfl⟩
theorem dL_2419 : dc code 2419 2420 .iadd 1 := ⟨dr_at drL_law_2418 (i := 1) rfl, rfl⟩
theorem dL_2420 : dc code 2420 2421 .iaload 1 := ⟨dr_at drL_law_2418 (i := 2) rfl, rfl⟩
theorem dL_2421 : dc code 2421 2424 (.invokevirtual 261) 3 := ⟨dr_at drL_law_2418 (i := 3) rfl, rfl⟩
theorem dL_2424 : dc code 2424 2426 (.istore 6) 2 := ⟨dr_at drL_law_2418 (i := 4) rfl, rfl⟩
theorem dL_2426 : dc code 2426 2427 (.aload_n 2) 1 := ⟨dr_at drL_law_2418 (i := 5) rfl, rfl⟩
theorem dL_2427 : dc code 2427 2430 (.invokevirtual 150) 3 := ⟨dr_at drL_law_2418 (i := 6) rfl, rfl⟩
theorem dL_2430 : dc code 2430 2432 (.iload 5) 2 := ⟨dr_at drL_law_2418 (i := 7) rfl, rfl⟩
theorem dL_2432 : dc code 2432 2435 (.if_icmp .eq 5) 3 := ⟨dr_at drL_law_2418 (i := 8) rfl, rfl⟩
theorem dL_2435 : dc code 2435 2436 (.iconst 0) 1 := ⟨dr_at drL_law_2418 (i := 9) rfl, rfl⟩
theorem dL_2437 : dc code 2437 2439 (.iload 5) 2 := ⟨dr_at drL_law_2418 (i := 10) rfl, rfl⟩
theorem dL_2439 : dc code 2439 2442 (.ifCond .ne 15) 3 := ⟨dr_at drL_law_2418 (i := 11) rfl, rfl⟩
theorem dL_2442 : dc code 2442 2443 (.aload_n 3) 1 := ⟨dr_at drL_law_2418 (i := 12) rfl, rfl⟩
theorem dL_2443 : dc code 2443 2444 (.iconst 0) 1 := ⟨dr_at drL_law_2418 (i := 13) rfl, rfl⟩
theorem dL_2444 : dc code 2444 2445 .laload 1 := ⟨dr_at drL_law_2418 (i := 14) rfl, rfl⟩
theorem dL_2445 : dc code 2445 2447 (.iload 6) 2 := ⟨dr_at drL_law_2418 (i := 15) rfl, rfl⟩
theorem dL_2447 : dc code 2447 2448 .i2l 1 := ⟨dr_at drL_law_2418 (i := 16) rfl, rfl⟩
theorem dL_2448 : dc code 2448 2449 .lcmp 1 := ⟨dr_at drL_law_2418 (i := 17) rfl, rfl⟩
theorem dL_2449 : dc code 2449 2452 (.ifCond .eq 5) 3 := ⟨dr_at drL_law_2418 (i := 18) rfl, rfl⟩
theorem dL_2452 : dc code 2452 2453 (.iconst 0) 1 := ⟨dr_at drL_law_2418 (i := 19) rfl, rfl⟩
theorem dL_2454 : dc code 2454 2457 (.goto 328) 3 := ⟨dr_at drL_law_2418 (i := 20) rfl, rfl⟩
theorem dL_2457 : dc code 2457 2458 (.aload_n 1) 1 := ⟨dr_at drL_law_2418 (i := 21) rfl, rfl⟩
theorem dL_2458 : dc code 2458 2459 (.aload_n 0) 1 := ⟨dr_at drL_law_2418 (i := 22) rfl, rfl⟩
theorem dL_2459 : dc code 2459 2461 (.iload 4) 2 := ⟨dr_at drL_law_2418 (i := 23) rfl, rfl⟩
theorem dL_2461 : dc code 2461 2462 (.iconst 1) 1 := ⟨dr_at drL_law_2418 (i := 24) rfl, rfl⟩
theorem dL_2462 : dc code 2462 2463 .iadd 1 := ⟨dr_at drL_law_2418 (i := 25) rfl, rfl⟩
theorem dL_2463 : dc code 2463 2464 .iaload 1 := ⟨dr_at drL_law_2418 (i := 26) rfl, rfl⟩
theorem dL_2464 : dc code 2464 2465 (.aload_n 0) 1 := ⟨dr_at drL_law_2418 (i := 27) rfl, rfl⟩
theorem dL_2465 : dc code 2465 2467 (.iload 4) 2 := ⟨dr_at drL_law_2418 (i := 28) rfl, rfl⟩
theorem dL_2467 : dc code 2467 2468 (.iconst 2) 1 := ⟨dr_at drL_law_2418 (i := 29) rfl, rfl⟩
theorem dL_2468 : dc code 2468 2469 .iadd 1 := ⟨dr_at drL_law_2418 (i := 30) rfl, rfl⟩
theorem dL_2469 : dc code 2469 2470 .iaload 1 := ⟨dr_at drL_law_2418 (i := 31) rfl, rfl⟩
theorem dL_2470 : dc code 2470 2471 (.aload_n 3) 1 := ⟨dr_at drL_law_2418 (i := 32) rfl, rfl⟩
theorem drL_law_2471 : ([(2471, (.invokestatic 262), 3), (2474, (.istore 5), 2), (2476, (.aload_n 2), 1), (2477, (.aload_n 0), 1), (2478, (.iload 4), 2), (2480, (.iconst 1), 1), (2481, .iadd, 1), (2482, .iaload, 1), (2483, (.aload_n 0), 1), (2484, (.iload 4), 2), (2486, (.iconst 2), 1), (2487, .iadd, 1), (2488, .iaload, 1), (2489, (.invokevirtual 264), 3), (2492, (.istore 6), 2), (2494, (.aload_n 2), 1), (2495, (.invokevirtual 150), 3), (2498, (.iload 5), 2), (2500, (.if_icmp .eq 5), 3), (2503, (.iconst 0), 1), (2505, (.iload 5), 2), (2507, (.ifCond .ne 15), 3), (2510, (.aload_n 3), 1), (2511, (.iconst 0), 1), (2512, .laload, 1), (2513, (.iload 6), 2), (2515, .i2l, 1), (2516, .lcmp, 1), (2517, (.ifCond .eq 5), 3), (2520, (.iconst 0), 1), (2522, (.goto 260), 3), (2525, (.aload_n 1), 1)] : List (Nat × Instr × Nat)).all (fun q => decide (decode code q.1 = .ok q.2)) = true := by decide +kernel
theorem dL_2471 : dc code 2471 2474 (.invokestatic 262) 3 := ⟨dr_at drL_law_2471 (i := 0) rfl, rfl⟩
theorem dL_2474 : dc code 2474 2476 (.istore 5) 2 := ⟨dr_at drL_law_2471 (i := 1) rfl, rfl⟩
theorem dL_2476 : dc code 2476 2477 (.aload_n 2) 1 := ⟨dr_at drL_law_2471 (i := 2) rfl, rfl⟩
theorem dL_2477 : dc code 2477 2478 (.aload_n 0) 1 := ⟨dr_at drL_law_2471 (i := 3) rfl, rfl⟩
theorem dL_2478 : dc code 2478 2480 (.iload 4) 2 := ⟨dr_at drL_law_2471 (i := 4) rfl, rfl⟩
theorem dL_2480 : dc code 2480 2481 (.iconst 1) 1 := ⟨dr_at drL_law_2471 (i := 5) rfl, rfl⟩
theorem dL_2481 : dc code 2481 2482 .iadd 1 := ⟨dr_at drL_law_2471 (i := 6) rfl, rfl⟩
theorem dL_2482 : dc code 2482 2483 .iaload 1 := ⟨dr_at drL_law_2471 (i := 7) rfl, rfl⟩
theorem dL_2483 : dc code 2483 2484 (.aload_n 0) 1 := ⟨dr_at drL_law_2471 (i := 8) rfl, rfl⟩
theorem dL_2484 : dc code 2484 2486 (.iload 4) 2 := ⟨dr_at drL_law_2471 (i := 9) rfl, rfl⟩
theorem dL_2486 : dc code 2486 2487 (.iconst 2) 1 := ⟨dr_at drL_law_2471 (i := 10) rfl, rfl⟩
theorem dL_2487 : dc code 2487 2488 .iadd 1 := ⟨dr_at drL_law_2471 (i := 11) rfl, rfl⟩
theorem dL_2488 : dc code 2488 2489 .iaload 1 := ⟨dr_at drL_law_2471 (i := 12) rfl, rfl⟩
theorem dL_2489 : dc code 2489 2492 (.invokevirtual 264) 3 := ⟨dr_at drL_law_2471 (i := 13) rfl, rfl⟩
theorem dL_2492 : dc code 2492 2494 (.istore 6) 2 := ⟨dr_at drL_law_2471 (i := 14) rfl, rfl⟩
theorem dL_2494 : dc code 2494 2495 (.aload_n 2) 1 := ⟨dr_at drL_law_2471 (i := 15) rfl, rfl⟩
theorem dL_2495 : dc code 2495 2498 (.invokevirtual 150) 3 := ⟨dr_at drL_law_2471 (i := 16) rfl, rfl⟩
theorem dL_2498 : dc code 2498 2500 (.iload 5) 2 := ⟨dr_at drL_law_2471 (i := 17) rfl, rfl⟩
theorem dL_2500 : dc code 2500 2503 (.if_icmp .eq 5) 3 := ⟨dr_at drL_law_2471 (i := 18) rfl, rfl⟩
theorem dL_2503 : dc code 2503 2504 (.iconst 0) 1 := ⟨dr_at drL_law_2471 (i := 19) rfl, rfl⟩
theorem dL_2505 : dc code 2505 2507 (.iload 5) 2 := ⟨dr_at drL_law_2471 (i := 20) rfl, rfl⟩
theorem dL_2507 : dc code 2507 2510 (.ifCond .ne 15) 3 := ⟨dr_at drL_law_2471 (i := 21) rfl, rfl⟩
theorem dL_2510 : dc code 2510 2511 (.aload_n 3) 1 := ⟨dr_at drL_law_2471 (i := 22) rfl, rfl⟩
theorem dL_2511 : dc code 2511 2512 (.iconst 0) 1 := ⟨dr_at drL_law_2471 (i := 23) rfl, rfl⟩
theorem dL_2512 : dc code 2512 2513 .laload 1 := ⟨dr_at drL_law_2471 (i := 24) rfl, rfl⟩
theorem dL_2513 : dc code 2513 2515 (.iload 6) 2 := ⟨dr_at drL_law_2471 (i := 25) rfl, rfl⟩
theorem dL_2515 : dc code 2515 2516 .i2l 1 := ⟨dr_at drL_law_2471 (i := 26) rfl, rfl⟩
theorem dL_2516 : dc code 2516 2517 .lcmp 1 := ⟨dr_at drL_law_2471 (i := 27) rfl, rfl⟩
theorem dL_2517 : dc code 2517 2520 (.ifCond .eq 5) 3 := ⟨dr_at drL_law_2471 (i := 28) rfl, rfl⟩
theorem dL_2520 : dc code 2520 2521 (.iconst 0) 1 := ⟨dr_at drL_law_2471 (i := 29) rfl, rfl⟩
theorem dL_2522 : dc code 2522 2525 (.goto 260) 3 := ⟨dr_at drL_law_2471 (i := 30) rfl, rfl⟩
theorem dL_2525 : dc code 2525 2526 (.aload_n 1) 1 := ⟨dr_at drL_law_2471 (i := 31) rfl, rfl⟩
theorem drL_law_2526 : ([(2526, (.aload_n 0), 1), (2527, (.iload 4), 2), (2529, (.iconst 1), 1), (2530, .iadd, 1), (2531, .iaload, 1), (2532, (.aload_n 0), 1), (2533, (.iload 4), 2), (2535, (.iconst 2), 1), (2536, .iadd, 1), (2537, .iaload, 1), (2538, (.aload_n 3), 1), (2539, (.invokestatic 265), 3), (2542, (.istore 5), 2), (2544, (.aload_n 2), 1), (2545, (.aload_n 0), 1), (2546, (.iload 4), 2), (2548, (.iconst 1), 1), (2549, .iadd, 1), (2550, .iaload, 1), (2551, (.aload_n 0), 1), (2552, (.iload 4), 2), (2554, (.iconst 2), 1), (2555, .iadd, 1), (2556, .iaload, 1), (2557, (.invokevirtual 267), 3), (2560, (.istore 6), 2), (2562, (.aload_n 2), 1), (2563, (.invokevirtual 150), 3), (2566, (.iload 5), 2), (2568, (.if_icmp .eq 5), 3), (2571, (.iconst 0), 1)] : List (Nat × Instr × Nat)).all (fun q => decide (decode code q.1 = .ok q.2)) = true := by decide +kernel
theorem dL_2526 : dc code 2526 2527 (.aload_n 0) 1 := ⟨dr_at drL_law_2526 (i := 0) rfl, rfl⟩
theorem dL_2527 : dc code 2527 2529 (.iload 4) 2 := ⟨dr_at drL_law_2526 (i := 1) rfl, rfl⟩
theorem dL_2529 : dc code 2529 2530 (.iconst 1) 1 := ⟨dr_at drL_law_2526 (i := 2) rfl, rfl⟩
theorem dL_2530 : dc code 2530 2531 .iadd 1 := ⟨dr_at drL_law_2526 (i := 3) rfl, rfl⟩
theorem dL_2531 : dc code 2531 2532 .iaload 1 := ⟨dr_at drL_law_2526 (i := 4) rfl, rfl⟩
theorem dL_2532 : dc code 2532 2533 (.aload_n 0) 1 := ⟨dr_at drL_law_2526 (i := 5) rfl, rfl⟩
theorem dL_2533 : dc code 2533 2535 (.iload 4) 2 := ⟨dr_at drL_law_2526 (i := 6) rfl, rfl⟩
theorem dL_2535 : dc code 2535 2536 (.iconst 2) 1 := ⟨dr_at drL_law_2526 (i := 7) rfl, rfl⟩
theorem dL_2536 : dc code 2536 2537 .iadd 1 := ⟨dr_at drL_law_2526 (i := 8) rfl, rfl⟩
theorem dL_2537 : dc code 2537 2538 .iaload 1 := ⟨dr_at drL_law_2526 (i := 9) rfl, rfl⟩
theorem dL_2538 : dc code 2538 2539 (.aload_n 3) 1 := ⟨dr_at drL_law_2526 (i := 10) rfl, rfl⟩
theorem dL_2539 : dc code 2539 2542 (.invokestatic 265) 3 := ⟨dr_at drL_law_2526 (i := 11) rfl, rfl⟩
theorem dL_2542 : dc code 2542 2544 (.istore 5) 2 := ⟨dr_at drL_law_2526 (i := 12) rfl, rfl⟩
theorem dL_2544 : dc code 2544 2545 (.aload_n 2) 1 := ⟨dr_at drL_law_2526 (i := 13) rfl, rfl⟩
theorem dL_2545 : dc code 2545 2546 (.aload_n 0) 1 := ⟨dr_at drL_law_2526 (i := 14) rfl, rfl⟩
theorem dL_2546 : dc code 2546 2548 (.iload 4) 2 := ⟨dr_at drL_law_2526 (i := 15) rfl, rfl⟩
theorem dL_2548 : dc code 2548 2549 (.iconst 1) 1 := ⟨dr_at drL_law_2526 (i := 16) rfl, rfl⟩
theorem dL_2549 : dc code 2549 2550 .iadd 1 := ⟨dr_at drL_law_2526 (i := 17) rfl, rfl⟩
theorem dL_2550 : dc code 2550 2551 .iaload 1 := ⟨dr_at drL_law_2526 (i := 18) rfl, rfl⟩
theorem dL_2551 : dc code 2551 2552 (.aload_n 0) 1 := ⟨dr_at drL_law_2526 (i := 19) rfl, rfl⟩
theorem dL_2552 : dc code 2552 2554 (.iload 4) 2 := ⟨dr_at drL_law_2526 (i := 20) rfl, rfl⟩
theorem dL_2554 : dc code 2554 2555 (.iconst 2) 1 := ⟨dr_at drL_law_2526 (i := 21) rfl, rfl⟩
theorem dL_2555 : dc code 2555 2556 .iadd 1 := ⟨dr_at drL_law_2526 (i := 22) rfl, rfl⟩
theorem dL_2556 : dc code 2556 2557 .iaload 1 := ⟨dr_at drL_law_2526 (i := 23) rfl, rfl⟩
theorem dL_2557 : dc code 2557 2560 (.invokevirtual 267) 3 := ⟨dr_at drL_law_2526 (i := 24) rfl, rfl⟩
theorem dL_2560 : dc code 2560 2562 (.istore 6) 2 := ⟨dr_at drL_law_2526 (i := 25) rfl, rfl⟩
theorem dL_2562 : dc code 2562 2563 (.aload_n 2) 1 := ⟨dr_at drL_law_2526 (i := 26) rfl, rfl⟩
theorem dL_2563 : dc code 2563 2566 (.invokevirtual 150) 3 := ⟨dr_at drL_law_2526 (i := 27) rfl, rfl⟩
theorem dL_2566 : dc code 2566 2568 (.iload 5) 2 := ⟨dr_at drL_law_2526 (i := 28) rfl, rfl⟩
theorem dL_2568 : dc code 2568 2571 (.if_icmp .eq 5) 3 := ⟨dr_at drL_law_2526 (i := 29) rfl, rfl⟩
theorem dL_2571 : dc code 2571 2572 (.iconst 0) 1 := ⟨dr_at drL_law_2526 (i := 30) rfl, rfl⟩
theorem drL_law_2573 : ([(2573, (.iload 5), 2), (2575, (.ifCond .ne 15), 3), (2578, (.aload_n 3), 1), (2579, (.iconst 0), 1), (2580, .laload, 1), (2581, (.iload 6), 2), (2583, .i2l, 1), (2584, .lcmp, 1), (2585, (.ifCond .eq 5), 3), (2588, (.iconst 0), 1), (2590, (.goto 192), 3), (2593, (.aload_n 1), 1), (2594, (.aload_n 0), 1), (2595, (.iload 4), 2), (2597, (.iconst 1), 1), (2598, .iadd, 1), (2599, .iaload, 1), (2600, (.aload_n 0), 1), (2601, (.iload 4), 2), (2603, (.iconst 2), 1), (2604, .iadd, 1), (2605, .iaload, 1), (2606, (.ifCond .eq 7), 3), (2609, (.iconst 1), 1), (2610, (.goto 4), 3), (2613, (.iconst 0), 1), (2614, (.aload_n 3), 1), (2615, (.invokestatic 268), 3), (2618, (.istore 5), 2), (2620, (.aload_n 2), 1), (2621, (.aload_n 0), 1)] : List (Nat × Instr × Nat)).all (fun q => decide (decode code q.1 = .ok q.2)) = true := by decide +kernel
theorem dL_2573 : dc code 2573 2575 (.iload 5) 2 := ⟨dr_at drL_law_2573 (i := 0) rfl, rfl⟩
theorem dL_2575 : dc code 2575 2578 (.ifCond .ne 15) 3 := ⟨dr_at drL_law_2573 (i := 1) rfl, rfl⟩
theorem dL_2578 : dc code 2578 2579 (.aload_n 3) 1 := ⟨dr_at drL_law_2573 (i := 2) rfl, rfl⟩
theorem dL_2579 : dc code 2579 2580 (.iconst 0) 1 := ⟨dr_at drL_law_2573 (i := 3) rfl, rfl⟩
theorem dL_2580 : dc code 2580 2581 .laload 1 := ⟨dr_at drL_law_2573 (i := 4) rfl, rfl⟩
theorem dL_2581 : dc code 2581 2583 (.iload 6) 2 := ⟨dr_at drL_law_2573 (i := 5) rfl, rfl⟩
theorem dL_2583 : dc code 2583 2584 .i2l 1 := ⟨dr_at drL_law_2573 (i := 6) rfl, rfl⟩
theorem dL_2584 : dc code 2584 2585 .lcmp 1 := ⟨dr_at drL_law_2573 (i := 7) rfl, rfl⟩
theorem dL_2585 : dc code 2585 2588 (.ifCond .eq 5) 3 := ⟨dr_at drL_law_2573 (i := 8) rfl, rfl⟩
theorem dL_2588 : dc code 2588 2589 (.iconst 0) 1 := ⟨dr_at drL_law_2573 (i := 9) rfl, rfl⟩
theorem dL_2590 : dc code 2590 2593 (.goto 192) 3 := ⟨dr_at drL_law_2573 (i := 10) rfl, rfl⟩
theorem dL_2593 : dc code 2593 2594 (.aload_n 1) 1 := ⟨dr_at drL_law_2573 (i := 11) rfl, rfl⟩
theorem dL_2594 : dc code 2594 2595 (.aload_n 0) 1 := ⟨dr_at drL_law_2573 (i := 12) rfl, rfl⟩
theorem dL_2595 : dc code 2595 2597 (.iload 4) 2 := ⟨dr_at drL_law_2573 (i := 13) rfl, rfl⟩
theorem dL_2597 : dc code 2597 2598 (.iconst 1) 1 := ⟨dr_at drL_law_2573 (i := 14) rfl, rfl⟩
theorem dL_2598 : dc code 2598 2599 .iadd 1 := ⟨dr_at drL_law_2573 (i := 15) rfl, rfl⟩
theorem dL_2599 : dc code 2599 2600 .iaload 1 := ⟨dr_at drL_law_2573 (i := 16) rfl, rfl⟩
theorem dL_2600 : dc code 2600 2601 (.aload_n 0) 1 := ⟨dr_at drL_law_2573 (i := 17) rfl, rfl⟩
theorem dL_2601 : dc code 2601 2603 (.iload 4) 2 := ⟨dr_at drL_law_2573 (i := 18) rfl, rfl⟩
theorem dL_2603 : dc code 2603 2604 (.iconst 2) 1 := ⟨dr_at drL_law_2573 (i := 19) rfl, rfl⟩
theorem dL_2604 : dc code 2604 2605 .iadd 1 := ⟨dr_at drL_law_2573 (i := 20) rfl, rfl⟩
theorem dL_2605 : dc code 2605 2606 .iaload 1 := ⟨dr_at drL_law_2573 (i := 21) rfl, rfl⟩
theorem dL_2606 : dc code 2606 2609 (.ifCond .eq 7) 3 := ⟨dr_at drL_law_2573 (i := 22) rfl, rfl⟩
theorem dL_2609 : dc code 2609 2610 (.iconst 1) 1 := ⟨dr_at drL_law_2573 (i := 23) rfl, rfl⟩
theorem dL_2610 : dc code 2610 2613 (.goto 4) 3 := ⟨dr_at drL_law_2573 (i := 24) rfl, rfl⟩
theorem dL_2613 : dc code 2613 2614 (.iconst 0) 1 := ⟨dr_at drL_law_2573 (i := 25) rfl, rfl⟩
theorem dL_2614 : dc code 2614 2615 (.aload_n 3) 1 := ⟨dr_at drL_law_2573 (i := 26) rfl, rfl⟩
theorem dL_2615 : dc code 2615 2618 (.invokestatic 268) 3 := ⟨dr_at drL_law_2573 (i := 27) rfl, rfl⟩
theorem dL_2618 : dc code 2618 2620 (.istore 5) 2 := ⟨dr_at drL_law_2573 (i := 28) rfl, rfl⟩
theorem dL_2620 : dc code 2620 2621 (.aload_n 2) 1 := ⟨dr_at drL_law_2573 (i := 29) rfl, rfl⟩
theorem dL_2621 : dc code 2621 2622 (.aload_n 0) 1 := ⟨dr_at drL_law_2573 (i := 30) rfl, rfl⟩
theorem drL_law_2622 : ([(2622, (.iload 4), 2), (2624, (.iconst 1), 1), (2625, .iadd, 1), (2626, .iaload, 1), (2627, (.aload_n 0), 1), (2628, (.iload 4), 2), (2630, (.iconst 2), 1), (2631, .iadd, 1), (2632, .iaload, 1), (2633, (.ifCond .eq 7), 3), (2636, (.iconst 1), 1), (2637, (.goto 4), 3), (2640, (.iconst 0), 1), (2641, (.invokevirtual 270), 3), (2644, (.istore 6), 2), (2646, (.aload_n 2), 1), (2647, (.invokevirtual 150), 3), (2650, (.iload 5), 2), (2652, (.if_icmp .eq 5), 3), (2655, (.iconst 0), 1), (2657, (.iload 5), 2), (2659, (.ifCond .ne 15), 3), (2662, (.aload_n 3), 1), (2663, (.iconst 0), 1), (2664, .laload, 1), (2665, (.iload 6), 2), (2667, .i2l, 1), (2668, .lcmp, 1), (2669, (.ifCond .eq 5), 3), (2672, (.iconst 0), 1)] : List (Nat × Instr × Nat)).all (fun q => decide (decode code q.1 = .ok q.2)) = true := by decide +kernel
theorem dL_2622 : dc code 2622 2624 (.iload 4) 2 := ⟨dr_at drL_law_2622 (i := 0) rfl, rfl⟩
theorem dL_2624 : dc code 2624 2625 (.iconst 1) 1 := ⟨dr_at drL_law_2622 (i := 1) rfl, rfl⟩
theorem dL_2625 : dc code 2625 2626 .iadd 1 := ⟨dr_at drL_law_2622 (i := 2) rfl, rfl⟩
theorem dL_2626 : dc code 2626 2627 .iaload 1 := ⟨dr_at drL_law_2622 (i := 3) rfl, rfl⟩
theorem dL_2627 : dc code 2627 2628 (.aload_n 0) 1 := ⟨dr_at drL_law_2622 (i := 4) rfl, rfl⟩
theorem dL_2628 : dc code 2628 2630 (.iload 4) 2 := ⟨dr_at drL_law_2622 (i := 5) rfl, rfl⟩
theorem dL_2630 : dc code 2630 2631 (.iconst 2) 1 := ⟨dr_at drL_law_2622 (i := 6) rfl, rfl⟩
theorem dL_2631 : dc code 2631 2632 .iadd 1 := ⟨dr_at drL_law_2622 (i := 7) rfl, rfl⟩
theorem dL_2632 : dc code 2632 2633 .iaload 1 := ⟨dr_at drL_law_2622 (i := 8) rfl, rfl⟩
theorem dL_2633 : dc code 2633 2636 (.ifCond .eq 7) 3 := ⟨dr_at drL_law_2622 (i := 9) rfl, rfl⟩
theorem dL_2636 : dc code 2636 2637 (.iconst 1) 1 := ⟨dr_at drL_law_2622 (i := 10) rfl, rfl⟩
theorem dL_2637 : dc code 2637 2640 (.goto 4) 3 := ⟨dr_at drL_law_2622 (i := 11) rfl, rfl⟩
theorem dL_2640 : dc code 2640 2641 (.iconst 0) 1 := ⟨dr_at drL_law_2622 (i := 12) rfl, rfl⟩
theorem dL_2641 : dc code 2641 2644 (.invokevirtual 270) 3 := ⟨dr_at drL_law_2622 (i := 13) rfl, rfl⟩
theorem dL_2644 : dc code 2644 2646 (.istore 6) 2 := ⟨dr_at drL_law_2622 (i := 14) rfl, rfl⟩
theorem dL_2646 : dc code 2646 2647 (.aload_n 2) 1 := ⟨dr_at drL_law_2622 (i := 15) rfl, rfl⟩
theorem dL_2647 : dc code 2647 2650 (.invokevirtual 150) 3 := ⟨dr_at drL_law_2622 (i := 16) rfl, rfl⟩
theorem dL_2650 : dc code 2650 2652 (.iload 5) 2 := ⟨dr_at drL_law_2622 (i := 17) rfl, rfl⟩
theorem dL_2652 : dc code 2652 2655 (.if_icmp .eq 5) 3 := ⟨dr_at drL_law_2622 (i := 18) rfl, rfl⟩
theorem dL_2655 : dc code 2655 2656 (.iconst 0) 1 := ⟨dr_at drL_law_2622 (i := 19) rfl, rfl⟩
theorem dL_2657 : dc code 2657 2659 (.iload 5) 2 := ⟨dr_at drL_law_2622 (i := 20) rfl, rfl⟩
theorem dL_2659 : dc code 2659 2662 (.ifCond .ne 15) 3 := ⟨dr_at drL_law_2622 (i := 21) rfl, rfl⟩
theorem dL_2662 : dc code 2662 2663 (.aload_n 3) 1 := ⟨dr_at drL_law_2622 (i := 22) rfl, rfl⟩
theorem dL_2663 : dc code 2663 2664 (.iconst 0) 1 := ⟨dr_at drL_law_2622 (i := 23) rfl, rfl⟩
theorem dL_2664 : dc code 2664 2665 .laload 1 := ⟨dr_at drL_law_2622 (i := 24) rfl, rfl⟩
theorem dL_2665 : dc code 2665 2667 (.iload 6) 2 := ⟨dr_at drL_law_2622 (i := 25) rfl, rfl⟩
theorem dL_2667 : dc code 2667 2668 .i2l 1 := ⟨dr_at drL_law_2622 (i := 26) rfl, rfl⟩
theorem dL_2668 : dc code 2668 2669 .lcmp 1 := ⟨dr_at drL_law_2622 (i := 27) rfl, rfl⟩
theorem dL_2669 : dc code 2669 2672 (.ifCond .eq 5) 3 := ⟨dr_at drL_law_2622 (i := 28) rfl, rfl⟩
theorem dL_2672 : dc code 2672 2673 (.iconst 0) 1 := ⟨dr_at drL_law_2622 (i := 29) rfl, rfl⟩
theorem drL_law_2674 : ([(2674, (.goto 108), 3), (2677, (.aload_n 1), 1), (2678, (.aload_n 0), 1), (2679, (.iload 4), 2), (2681, (.iconst 1), 1), (2682, .iadd, 1), (2683, .iaload, 1), (2684, (.aload_n 3), 1), (2685, (.invokestatic 271), 3), (2688, (.istore 5), 2), (2690, (.aload_n 2), 1), (2691, (.aload_n 0), 1), (2692, (.iload 4), 2), (2694, (.iconst 1), 1), (2695, .iadd, 1), (2696, .iaload, 1), (2697, (.invokevirtual 273), 3), (2700, (.istore 6), 2), (2702, (.aload_n 2), 1), (2703, (.invokevirtual 150), 3), (2706, (.iload 5), 2), (2708, (.if_icmp .eq 5), 3), (2711, (.iconst 0), 1), (2713, (.iload 5), 2), (2715, (.ifCond .ne 15), 3), (2718, (.aload_n 3), 1), (2719, (.iconst 0), 1), (2720, .laload, 1), (2721, (.iload 6), 2)] : List (Nat × Instr × Nat)).all (fun q => decide (decode code q.1 = .ok q.2)) = true := by decide +kernel
theorem dL_2674 : dc code 2674 2677 (.goto 108) 3 := ⟨dr_at drL_law_2674 (i := 0) rfl, rfl⟩
theorem dL_2677 : dc code 2677 2678 (.aload_n 1) 1 := ⟨dr_at drL_law_2674 (i := 1) rfl, rfl⟩
theorem dL_2678 : dc code 2678 2679 (.aload_n 0) 1 := ⟨dr_at drL_law_2674 (i := 2) rfl, rfl⟩
theorem dL_2679 : dc code 2679 2681 (.iload 4) 2 := ⟨dr_at drL_law_2674 (i := 3) rfl, rfl⟩
theorem dL_2681 : dc code 2681 2682 (.iconst 1) 1 := ⟨dr_at drL_law_2674 (i := 4) rfl, rfl⟩
theorem dL_2682 : dc code 2682 2683 .iadd 1 := ⟨dr_at drL_law_2674 (i := 5) rfl, rfl⟩
theorem dL_2683 : dc code 2683 2684 .iaload 1 := ⟨dr_at drL_law_2674 (i := 6) rfl, rfl⟩
theorem dL_2684 : dc code 2684 2685 (.aload_n 3) 1 := ⟨dr_at drL_law_2674 (i := 7) rfl, rfl⟩
theorem dL_2685 : dc code 2685 2688 (.invokestatic 271) 3 := ⟨dr_at drL_law_2674 (i := 8) rfl, rfl⟩
theorem dL_2688 : dc code 2688 2690 (.istore 5) 2 := ⟨dr_at drL_law_2674 (i := 9) rfl, rfl⟩
theorem dL_2690 : dc code 2690 2691 (.aload_n 2) 1 := ⟨dr_at drL_law_2674 (i := 10) rfl, rfl⟩
theorem dL_2691 : dc code 2691 2692 (.aload_n 0) 1 := ⟨dr_at drL_law_2674 (i := 11) rfl, rfl⟩
theorem dL_2692 : dc code 2692 2694 (.iload 4) 2 := ⟨dr_at drL_law_2674 (i := 12) rfl, rfl⟩
theorem dL_2694 : dc code 2694 2695 (.iconst 1) 1 := ⟨dr_at drL_law_2674 (i := 13) rfl, rfl⟩
theorem dL_2695 : dc code 2695 2696 .iadd 1 := ⟨dr_at drL_law_2674 (i := 14) rfl, rfl⟩
theorem dL_2696 : dc code 2696 2697 .iaload 1 := ⟨dr_at drL_law_2674 (i := 15) rfl, rfl⟩
theorem dL_2697 : dc code 2697 2700 (.invokevirtual 273) 3 := ⟨dr_at drL_law_2674 (i := 16) rfl, rfl⟩
theorem dL_2700 : dc code 2700 2702 (.istore 6) 2 := ⟨dr_at drL_law_2674 (i := 17) rfl, rfl⟩
theorem dL_2702 : dc code 2702 2703 (.aload_n 2) 1 := ⟨dr_at drL_law_2674 (i := 18) rfl, rfl⟩
theorem dL_2703 : dc code 2703 2706 (.invokevirtual 150) 3 := ⟨dr_at drL_law_2674 (i := 19) rfl, rfl⟩
theorem dL_2706 : dc code 2706 2708 (.iload 5) 2 := ⟨dr_at drL_law_2674 (i := 20) rfl, rfl⟩
theorem dL_2708 : dc code 2708 2711 (.if_icmp .eq 5) 3 := ⟨dr_at drL_law_2674 (i := 21) rfl, rfl⟩
theorem dL_2711 : dc code 2711 2712 (.iconst 0) 1 := ⟨dr_at drL_law_2674 (i := 22) rfl, rfl⟩
theorem dL_2713 : dc code 2713 2715 (.iload 5) 2 := ⟨dr_at drL_law_2674 (i := 23) rfl, rfl⟩
theorem dL_2715 : dc code 2715 2718 (.ifCond .ne 15) 3 := ⟨dr_at drL_law_2674 (i := 24) rfl, rfl⟩
theorem dL_2718 : dc code 2718 2719 (.aload_n 3) 1 := ⟨dr_at drL_law_2674 (i := 25) rfl, rfl⟩
theorem dL_2719 : dc code 2719 2720 (.iconst 0) 1 := ⟨dr_at drL_law_2674 (i := 26) rfl, rfl⟩
theorem dL_2720 : dc code 2720 2721 .laload 1 := ⟨dr_at drL_law_2674 (i := 27) rfl, rfl⟩
theorem dL_2721 : dc code 2721 2723 (.iload 6) 2 := ⟨dr_at drL_law_2674 (i := 28) rfl, rfl⟩
theorem drL_law_2723 : ([(2723, .i2l, 1), (2724, .lcmp, 1), (2725, (.ifCond .eq 5), 3), (2728, (.iconst 0), 1), (2730, (.goto 52), 3), (2733, (.aload_n 1), 1), (2734, (.invokevirtual 274), 3), (2737, (.aload_n 2), 1), (2738, (.invokevirtual 277), 3), (2741, (.goto 41), 3), (2744, (.aload_n 1), 1), (2745, (.invokevirtual 278), 3), (2748, (.aload_n 2), 1), (2749, (.invokevirtual 282), 3), (2752, (.if_icmp .eq 30), 3), (2755, (.iconst 0), 1), (2757, (.aload_n 1), 1), (2758, (.aload_n 0), 1), (2759, (.iload 4), 2), (2761, (.iconst 1), 1), (2762, .iadd, 1), (2763, .iaload, 1), (2764, (.invokevirtual 283), 3), (2767, (.aload_n 2), 1), (2768, (.aload_n 0), 1), (2769, (.iload 4), 2), (2771, (.iconst 1), 1), (2772, .iadd, 1), (2773, .iaload, 1)] : List (Nat × Instr × Nat)).all (fun q => decide (decode code q.1 = .ok q.2)) = true := by decide +kernel
theorem dL_2723 : dc code 2723 2724 .i2l 1 := ⟨dr_at drL_law_2723 (i := 0) rfl, rfl⟩
theorem dL_2724 : dc code 2724 2725 .lcmp 1 := ⟨dr_at drL_law_2723 (i := 1) rfl, rfl⟩
theorem dL_2725 : dc code 2725 2728 (.ifCond .eq 5) 3 := ⟨dr_at drL_law_2723 (i := 2) rfl, rfl⟩
theorem dL_2728 : dc code 2728 2729 (.iconst 0) 1 := ⟨dr_at drL_law_2723 (i := 3) rfl, rfl⟩
theorem dL_2730 : dc code 2730 2733 (.goto 52) 3 := ⟨dr_at drL_law_2723 (i := 4) rfl, rfl⟩
theorem dL_2733 : dc code 2733 2734 (.aload_n 1) 1 := ⟨dr_at drL_law_2723 (i := 5) rfl, rfl⟩
theorem dL_2734 : dc code 2734 2737 (.invokevirtual 274) 3 := ⟨dr_at drL_law_2723 (i := 6) rfl, rfl⟩
theorem dL_2737 : dc code 2737 2738 (.aload_n 2) 1 := ⟨dr_at drL_law_2723 (i := 7) rfl, rfl⟩
theorem dL_2738 : dc code 2738 2741 (.invokevirtual 277) 3 := ⟨dr_at drL_law_2723 (i := 8) rfl, rfl⟩
theorem dL_2741 : dc code 2741 2744 (.goto 41) 3 := ⟨dr_at drL_law_2723 (i := 9) rfl, rfl⟩
theorem dL_2744 : dc code 2744 2745 (.aload_n 1) 1 := ⟨dr_at drL_law_2723 (i := 10) rfl, rfl⟩
theorem dL_2745 : dc code 2745 2748 (.invokevirtual 278) 3 := ⟨dr_at drL_law_2723 (i := 11) rfl, rfl⟩
theorem dL_2748 : dc code 2748 2749 (.aload_n 2) 1 := ⟨dr_at drL_law_2723 (i := 12) rfl, rfl⟩
theorem dL_2749 : dc code 2749 2752 (.invokevirtual 282) 3 := ⟨dr_at drL_law_2723 (i := 13) rfl, rfl⟩
theorem dL_2752 : dc code 2752 2755 (.if_icmp .eq 30) 3 := ⟨dr_at drL_law_2723 (i := 14) rfl, rfl⟩
theorem dL_2755 : dc code 2755 2756 (.iconst 0) 1 := ⟨dr_at drL_law_2723 (i := 15) rfl, rfl⟩
theorem dL_2757 : dc code 2757 2758 (.aload_n 1) 1 := ⟨dr_at drL_law_2723 (i := 16) rfl, rfl⟩
theorem dL_2758 : dc code 2758 2759 (.aload_n 0) 1 := ⟨dr_at drL_law_2723 (i := 17) rfl, rfl⟩
theorem dL_2759 : dc code 2759 2761 (.iload 4) 2 := ⟨dr_at drL_law_2723 (i := 18) rfl, rfl⟩
theorem dL_2761 : dc code 2761 2762 (.iconst 1) 1 := ⟨dr_at drL_law_2723 (i := 19) rfl, rfl⟩
theorem dL_2762 : dc code 2762 2763 .iadd 1 := ⟨dr_at drL_law_2723 (i := 20) rfl, rfl⟩
theorem dL_2763 : dc code 2763 2764 .iaload 1 := ⟨dr_at drL_law_2723 (i := 21) rfl, rfl⟩
theorem dL_2764 : dc code 2764 2767 (.invokevirtual 283) 3 := ⟨dr_at drL_law_2723 (i := 22) rfl, rfl⟩
theorem dL_2767 : dc code 2767 2768 (.aload_n 2) 1 := ⟨dr_at drL_law_2723 (i := 23) rfl, rfl⟩
theorem dL_2768 : dc code 2768 2769 (.aload_n 0) 1 := ⟨dr_at drL_law_2723 (i := 24) rfl, rfl⟩
theorem dL_2769 : dc code 2769 2771 (.iload 4) 2 := ⟨dr_at drL_law_2723 (i := 25) rfl, rfl⟩
theorem dL_2771 : dc code 2771 2772 (.iconst 1) 1 := ⟨dr_at drL_law_2723 (i := 26) rfl, rfl⟩
theorem dL_2772 : dc code 2772 2773 .iadd 1 := ⟨dr_at drL_law_2723 (i := 27) rfl, rfl⟩
theorem dL_2773 : dc code 2773 2774 .iaload 1 := ⟨dr_at drL_law_2723 (i := 28) rfl, rfl⟩
theorem drL_law_2774 : ([(2774, (.invokevirtual 286), 3), (2777, (.if_icmp .eq 5), 3), (2780, (.iconst 0), 1), (2782, (.iinc 4 7), 3), (2785, (.goto (-2762)), 3), (2788, (.iconst 1), 1), (2789, .ireturn, 1)] : List (Nat × Instr × Nat)).all (fun q => decide (decode code q.1 = .ok q.2)) = true := by decide +kernel
theorem dL_2774 : dc code 2774 2777 (.invokevirtual 286) 3 := ⟨dr_at drL_law_2774 (i := 0) rfl, rfl⟩
theorem dL_2777 : dc code 2777 2780 (.if_icmp .eq 5) 3 := ⟨dr_at drL_law_2774 (i := 1) rfl, rfl⟩
theorem dL_2780 : dc code 2780 2781 (.iconst 0) 1 := ⟨dr_at drL_law_2774 (i := 2) rfl, rfl⟩
theorem dL_2782 : dc code 2782 2785 (.iinc 4 7) 3 := ⟨dr_at drL_law_2774 (i := 3) rfl, rfl⟩
theorem dL_2785 : dc code 2785 2788 (.goto (-2762)) 3 := ⟨dr_at drL_law_2774 (i := 4) rfl, rfl⟩
theorem dL_2788 : dc code 2788 2789 (.iconst 1) 1 := ⟨dr_at drL_law_2774 (i := 5) rfl, rfl⟩
theorem dL_2789 : dc code 2789 2790 .ireturn 1 := ⟨dr_at drL_law_2774 (i := 6) rfl, rfl⟩
