section LAWC
variable {G : z_G} {n0 d rc rs dc dr mc ms : Nat} {K : z_K} {I : z_I} {L : z_L} {Q : z_R} {b Lx : Nat} {xs : Nat → Int32} {i : Nat}
theorem dL_law_2072 : decode cL_law 2072 = .ok (.aload_n 1, 1) := by decide +kernel
theorem dL_law_2073 : decode cL_law 2073 = .ok (.invokevirtual 196, 3) := by decide +kernel
theorem dL_law_2076 : decode cL_law 2076 = .ok (.aload_n 2, 1) := by decide +kernel
theorem dL_law_2077 : decode cL_law 2077 = .ok (.invokevirtual 199, 3) := by decide +kernel
theorem dL_law_2080 : decode cL_law 2080 = .ok (.if_icmp .eq 262, 3) := by decide +kernel
theorem dL_law_2085 : decode cL_law 2085 = .ok (.aload_n 1, 1) := by decide +kernel
theorem dL_law_2086 : decode cL_law 2086 = .ok (.aload_n 0, 1) := by decide +kernel
theorem dL_law_2087 : decode cL_law 2087 = .ok (.iload_n 3, 1) := by decide +kernel
theorem dL_law_2088 : decode cL_law 2088 = .ok (.iconst 1, 1) := by decide +kernel
theorem dL_law_2089 : decode cL_law 2089 = .ok (.iadd, 1) := by decide +kernel
theorem dL_law_2090 : decode cL_law 2090 = .ok (.iaload, 1) := by decide +kernel
theorem dL_law_2091 : decode cL_law 2091 = .ok (.aload_n 0, 1) := by decide +kernel
theorem dL_law_2092 : decode cL_law 2092 = .ok (.iload_n 3, 1) := by decide +kernel
theorem dL_law_2093 : decode cL_law 2093 = .ok (.iconst 2, 1) := by decide +kernel
theorem dL_law_2094 : decode cL_law 2094 = .ok (.iadd, 1) := by decide +kernel
theorem dL_law_2095 : decode cL_law 2095 = .ok (.iaload, 1) := by decide +kernel
theorem dL_law_2096 : decode cL_law 2096 = .ok (.invokevirtual 200, 3) := by decide +kernel
theorem dL_law_2099 : decode cL_law 2099 = .ok (.aload_n 2, 1) := by decide +kernel
theorem dL_law_2100 : decode cL_law 2100 = .ok (.aload_n 0, 1) := by decide +kernel
theorem dL_law_2101 : decode cL_law 2101 = .ok (.iload_n 3, 1) := by decide +kernel
theorem dL_law_2102 : decode cL_law 2102 = .ok (.iconst 1, 1) := by decide +kernel
theorem dL_law_2103 : decode cL_law 2103 = .ok (.iadd, 1) := by decide +kernel
theorem dL_law_2104 : decode cL_law 2104 = .ok (.iaload, 1) := by decide +kernel
theorem dL_law_2105 : decode cL_law 2105 = .ok (.aload_n 0, 1) := by decide +kernel
theorem dL_law_2106 : decode cL_law 2106 = .ok (.iload_n 3, 1) := by decide +kernel
theorem dL_law_2107 : decode cL_law 2107 = .ok (.iconst 2, 1) := by decide +kernel
theorem dL_law_2108 : decode cL_law 2108 = .ok (.iadd, 1) := by decide +kernel
theorem dL_law_2109 : decode cL_law 2109 = .ok (.iaload, 1) := by decide +kernel
theorem dL_law_2110 : decode cL_law 2110 = .ok (.invokevirtual 203, 3) := by decide +kernel
theorem dL_law_2113 : decode cL_law 2113 = .ok (.if_icmp .eq 229, 3) := by decide +kernel
theorem dL_law_2118 : decode cL_law 2118 = .ok (.aload_n 1, 1) := by decide +kernel
theorem dL_law_2119 : decode cL_law 2119 = .ok (.aload_n 0, 1) := by decide +kernel
theorem dL_law_2120 : decode cL_law 2120 = .ok (.iload_n 3, 1) := by decide +kernel
theorem dL_law_2121 : decode cL_law 2121 = .ok (.iconst 1, 1) := by decide +kernel
theorem dL_law_2122 : decode cL_law 2122 = .ok (.iadd, 1) := by decide +kernel
theorem dL_law_2123 : decode cL_law 2123 = .ok (.iaload, 1) := by decide +kernel
theorem dL_law_2124 : decode cL_law 2124 = .ok (.aload_n 0, 1) := by decide +kernel
theorem dL_law_2125 : decode cL_law 2125 = .ok (.iload_n 3, 1) := by decide +kernel
theorem dL_law_2126 : decode cL_law 2126 = .ok (.iconst 2, 1) := by decide +kernel
theorem dL_law_2127 : decode cL_law 2127 = .ok (.iadd, 1) := by decide +kernel
theorem dL_law_2128 : decode cL_law 2128 = .ok (.iaload, 1) := by decide +kernel
theorem dL_law_2129 : decode cL_law 2129 = .ok (.aload_n 0, 1) := by decide +kernel
theorem dL_law_2130 : decode cL_law 2130 = .ok (.iload_n 3, 1) := by decide +kernel
theorem dL_law_2131 : decode cL_law 2131 = .ok (.iconst 3, 1) := by decide +kernel
theorem dL_law_2132 : decode cL_law 2132 = .ok (.iadd, 1) := by decide +kernel
theorem dL_law_2133 : decode cL_law 2133 = .ok (.iaload, 1) := by decide +kernel
theorem dL_law_2134 : decode cL_law 2134 = .ok (.aload_n 0, 1) := by decide +kernel
theorem dL_law_2135 : decode cL_law 2135 = .ok (.iload_n 3, 1) := by decide +kernel
theorem dL_law_2136 : decode cL_law 2136 = .ok (.iconst 4, 1) := by decide +kernel
theorem dL_law_2137 : decode cL_law 2137 = .ok (.iadd, 1) := by decide +kernel
theorem dL_law_2138 : decode cL_law 2138 = .ok (.iaload, 1) := by decide +kernel
theorem dL_law_2139 : decode cL_law 2139 = .ok (.invokevirtual 204, 3) := by decide +kernel
theorem dL_law_2142 : decode cL_law 2142 = .ok (.aload_n 2, 1) := by decide +kernel
theorem dL_law_2143 : decode cL_law 2143 = .ok (.aload_n 0, 1) := by decide +kernel
theorem dL_law_2144 : decode cL_law 2144 = .ok (.iload_n 3, 1) := by decide +kernel
theorem dL_law_2145 : decode cL_law 2145 = .ok (.iconst 1, 1) := by decide +kernel
theorem dL_law_2146 : decode cL_law 2146 = .ok (.iadd, 1) := by decide +kernel
theorem dL_law_2147 : decode cL_law 2147 = .ok (.iaload, 1) := by decide +kernel
theorem dL_law_2148 : decode cL_law 2148 = .ok (.aload_n 0, 1) := by decide +kernel
theorem dL_law_2149 : decode cL_law 2149 = .ok (.iload_n 3, 1) := by decide +kernel
theorem dL_law_2150 : decode cL_law 2150 = .ok (.iconst 2, 1) := by decide +kernel
theorem dL_law_2151 : decode cL_law 2151 = .ok (.iadd, 1) := by decide +kernel
theorem dL_law_2152 : decode cL_law 2152 = .ok (.iaload, 1) := by decide +kernel
theorem dL_law_2153 : decode cL_law 2153 = .ok (.aload_n 0, 1) := by decide +kernel
theorem dL_law_2154 : decode cL_law 2154 = .ok (.iload_n 3, 1) := by decide +kernel
theorem dL_law_2155 : decode cL_law 2155 = .ok (.iconst 3, 1) := by decide +kernel
theorem dL_law_2156 : decode cL_law 2156 = .ok (.iadd, 1) := by decide +kernel
theorem dL_law_2157 : decode cL_law 2157 = .ok (.iaload, 1) := by decide +kernel
theorem dL_law_2158 : decode cL_law 2158 = .ok (.aload_n 0, 1) := by decide +kernel
theorem dL_law_2159 : decode cL_law 2159 = .ok (.iload_n 3, 1) := by decide +kernel
theorem dL_law_2160 : decode cL_law 2160 = .ok (.iconst 4, 1) := by decide +kernel
theorem dL_law_2161 : decode cL_law 2161 = .ok (.iadd, 1) := by decide +kernel
theorem dL_law_2162 : decode cL_law 2162 = .ok (.iaload, 1) := by decide +kernel
theorem dL_law_2163 : decode cL_law 2163 = .ok (.invokevirtual 207, 3) := by decide +kernel
theorem dL_law_2166 : decode cL_law 2166 = .ok (.if_icmp .eq 176, 3) := by decide +kernel
theorem dL_law_2171 : decode cL_law 2171 = .ok (.aload_n 1, 1) := by decide +kernel
theorem dL_law_2172 : decode cL_law 2172 = .ok (.aload_n 0, 1) := by decide +kernel
theorem dL_law_2173 : decode cL_law 2173 = .ok (.iload_n 3, 1) := by decide +kernel
theorem dL_law_2174 : decode cL_law 2174 = .ok (.iconst 1, 1) := by decide +kernel
theorem dL_law_2175 : decode cL_law 2175 = .ok (.iadd, 1) := by decide +kernel
theorem dL_law_2176 : decode cL_law 2176 = .ok (.iaload, 1) := by decide +kernel
theorem dL_law_2177 : decode cL_law 2177 = .ok (.invokevirtual 208, 3) := by decide +kernel
theorem dL_law_2180 : decode cL_law 2180 = .ok (.aload_n 2, 1) := by decide +kernel
theorem dL_law_2181 : decode cL_law 2181 = .ok (.aload_n 0, 1) := by decide +kernel
theorem dL_law_2182 : decode cL_law 2182 = .ok (.iload_n 3, 1) := by decide +kernel
theorem dL_law_2183 : decode cL_law 2183 = .ok (.iconst 1, 1) := by decide +kernel
theorem dL_law_2184 : decode cL_law 2184 = .ok (.iadd, 1) := by decide +kernel
theorem dL_law_2185 : decode cL_law 2185 = .ok (.iaload, 1) := by decide +kernel
theorem dL_law_2186 : decode cL_law 2186 = .ok (.invokevirtual 211, 3) := by decide +kernel
theorem dL_law_2189 : decode cL_law 2189 = .ok (.if_icmp .eq 153, 3) := by decide +kernel
theorem dL_law_2194 : decode cL_law 2194 = .ok (.aload_n 1, 1) := by decide +kernel
theorem dL_law_2195 : decode cL_law 2195 = .ok (.aload_n 0, 1) := by decide +kernel
theorem dL_law_2196 : decode cL_law 2196 = .ok (.iload_n 3, 1) := by decide +kernel
theorem dL_law_2197 : decode cL_law 2197 = .ok (.iconst 1, 1) := by decide +kernel
theorem dL_law_2198 : decode cL_law 2198 = .ok (.iadd, 1) := by decide +kernel
theorem dL_law_2199 : decode cL_law 2199 = .ok (.iaload, 1) := by decide +kernel
theorem dL_law_2200 : decode cL_law 2200 = .ok (.invokevirtual 212, 3) := by decide +kernel
theorem dL_law_2203 : decode cL_law 2203 = .ok (.aload_n 2, 1) := by decide +kernel
theorem dL_law_2204 : decode cL_law 2204 = .ok (.aload_n 0, 1) := by decide +kernel
theorem dL_law_2205 : decode cL_law 2205 = .ok (.iload_n 3, 1) := by decide +kernel
theorem dL_law_2206 : decode cL_law 2206 = .ok (.iconst 1, 1) := by decide +kernel
theorem dL_law_2207 : decode cL_law 2207 = .ok (.iadd, 1) := by decide +kernel
theorem dL_law_2208 : decode cL_law 2208 = .ok (.iaload, 1) := by decide +kernel
theorem dL_law_2209 : decode cL_law 2209 = .ok (.invokevirtual 215, 3) := by decide +kernel
theorem dL_law_2212 : decode cL_law 2212 = .ok (.if_icmp .eq 130, 3) := by decide +kernel
theorem dL_law_2217 : decode cL_law 2217 = .ok (.aload_n 1, 1) := by decide +kernel
theorem dL_law_2218 : decode cL_law 2218 = .ok (.aload_n 0, 1) := by decide +kernel
theorem dL_law_2219 : decode cL_law 2219 = .ok (.iload_n 3, 1) := by decide +kernel
theorem dL_law_2220 : decode cL_law 2220 = .ok (.iconst 1, 1) := by decide +kernel
theorem dL_law_2221 : decode cL_law 2221 = .ok (.iadd, 1) := by decide +kernel
theorem dL_law_2222 : decode cL_law 2222 = .ok (.iaload, 1) := by decide +kernel
theorem dL_law_2223 : decode cL_law 2223 = .ok (.aload_n 0, 1) := by decide +kernel
theorem dL_law_2224 : decode cL_law 2224 = .ok (.iload_n 3, 1) := by decide +kernel
theorem dL_law_2225 : decode cL_law 2225 = .ok (.iconst 2, 1) := by decide +kernel
theorem dL_law_2226 : decode cL_law 2226 = .ok (.iadd, 1) := by decide +kernel
theorem dL_law_2227 : decode cL_law 2227 = .ok (.iaload, 1) := by decide +kernel
theorem dL_law_2228 : decode cL_law 2228 = .ok (.invokevirtual 216, 3) := by decide +kernel
theorem dL_law_2231 : decode cL_law 2231 = .ok (.aload_n 2, 1) := by decide +kernel
theorem dL_law_2232 : decode cL_law 2232 = .ok (.aload_n 0, 1) := by decide +kernel
theorem dL_law_2233 : decode cL_law 2233 = .ok (.iload_n 3, 1) := by decide +kernel
theorem dL_law_2234 : decode cL_law 2234 = .ok (.iconst 1, 1) := by decide +kernel
theorem dL_law_2235 : decode cL_law 2235 = .ok (.iadd, 1) := by decide +kernel
theorem dL_law_2236 : decode cL_law 2236 = .ok (.iaload, 1) := by decide +kernel
theorem dL_law_2237 : decode cL_law 2237 = .ok (.aload_n 0, 1) := by decide +kernel
theorem dL_law_2238 : decode cL_law 2238 = .ok (.iload_n 3, 1) := by decide +kernel
theorem dL_law_2239 : decode cL_law 2239 = .ok (.iconst 2, 1) := by decide +kernel
theorem dL_law_2240 : decode cL_law 2240 = .ok (.iadd, 1) := by decide +kernel
theorem dL_law_2241 : decode cL_law 2241 = .ok (.iaload, 1) := by decide +kernel
theorem dL_law_2242 : decode cL_law 2242 = .ok (.invokevirtual 219, 3) := by decide +kernel
theorem dL_law_2245 : decode cL_law 2245 = .ok (.if_icmp .eq 97, 3) := by decide +kernel
theorem dL_law_2250 : decode cL_law 2250 = .ok (.aload_n 1, 1) := by decide +kernel
theorem dL_law_2251 : decode cL_law 2251 = .ok (.aload_n 0, 1) := by decide +kernel
theorem dL_law_2252 : decode cL_law 2252 = .ok (.iload_n 3, 1) := by decide +kernel
theorem dL_law_2253 : decode cL_law 2253 = .ok (.iconst 1, 1) := by decide +kernel
theorem dL_law_2254 : decode cL_law 2254 = .ok (.iadd, 1) := by decide +kernel
theorem dL_law_2255 : decode cL_law 2255 = .ok (.iaload, 1) := by decide +kernel
theorem dL_law_2256 : decode cL_law 2256 = .ok (.aload_n 0, 1) := by decide +kernel
theorem dL_law_2257 : decode cL_law 2257 = .ok (.iload_n 3, 1) := by decide +kernel
theorem dL_law_2258 : decode cL_law 2258 = .ok (.iconst 2, 1) := by decide +kernel
theorem dL_law_2259 : decode cL_law 2259 = .ok (.iadd, 1) := by decide +kernel
theorem dL_law_2260 : decode cL_law 2260 = .ok (.iaload, 1) := by decide +kernel
theorem dL_law_2261 : decode cL_law 2261 = .ok (.invokevirtual 220, 3) := by decide +kernel
theorem dL_law_2264 : decode cL_law 2264 = .ok (.aload_n 2, 1) := by decide +kernel
theorem dL_law_2265 : decode cL_law 2265 = .ok (.aload_n 0, 1) := by decide +kernel
theorem dL_law_2266 : decode cL_law 2266 = .ok (.iload_n 3, 1) := by decide +kernel
theorem dL_law_2267 : decode cL_law 2267 = .ok (.iconst 1, 1) := by decide +kernel
theorem dL_law_2268 : decode cL_law 2268 = .ok (.iadd, 1) := by decide +kernel
theorem dL_law_2269 : decode cL_law 2269 = .ok (.iaload, 1) := by decide +kernel
theorem dL_law_2270 : decode cL_law 2270 = .ok (.aload_n 0, 1) := by decide +kernel
theorem dL_law_2271 : decode cL_law 2271 = .ok (.iload_n 3, 1) := by decide +kernel
theorem dL_law_2272 : decode cL_law 2272 = .ok (.iconst 2, 1) := by decide +kernel
theorem dL_law_2273 : decode cL_law 2273 = .ok (.iadd, 1) := by decide +kernel
theorem dL_law_2274 : decode cL_law 2274 = .ok (.iaload, 1) := by decide +kernel
theorem dL_law_2275 : decode cL_law 2275 = .ok (.invokevirtual 223, 3) := by decide +kernel
theorem dL_law_2278 : decode cL_law 2278 = .ok (.if_icmp .eq 64, 3) := by decide +kernel
theorem lw_edition (hG : G.2.2.2 3 = (b, Lx, xs)) (hi : i + 9 ≤ Lx) (hLx : Lx ≤ 4608) (h0 : 0 < K.1) (h12 : (K.2.1 0).1 = 12) (hdc : dc + 1 ≤ d) (hdr : dr + 1 ≤ d)
    (hop : OpA n0 xX12_edition xX13_edition dc dr mc ms [] K I L (fun K' I' L' => ZG G n0 xL_law d rc rs 18 [(0, .ref b), (1, .ref (n0 + 0)), (2, .ref (n0 + 59)), (3, .int (nI (i + 9)))] [] K' I' L' Q)) :
    ZH G n0 xL_law d (rc + mc) (rs + ms) 2072 [(0, .ref b), (1, .ref (n0 + 0)), (2, .ref (n0 + 59)), (3, .int (nI i))] [] K I L Q := by
  refine yh_aload_n 1 dL_law_2072 rfl ?_
  refine yh_callV (rc := rc) (rs := rs) (mc1 := mc) (ms1 := ms) (k := 0) (c := 12) (As := []) dL_law_2073 hy_X12_edition h0 h12 (by decide) wg_1249 wg_1250 wg_1251 hdc (Nat.le_of_ble_eq_true rfl) (RM.mono hop ?_)
  clear hop
  rintro vv K1 I1 L1 ⟨r, rfl, hop⟩
  change ZH G n0 xL_law d rc rs _ _ [.int r] K1 I1 L1 Q
  refine yh_aload_n 2 dL_law_2076 rfl ?_
  refine yh_callM (As := []) (st := [.int r]) dL_law_2077 hy_X13_edition wg_2182 wg_2183 wg_2184 hdr (Nat.le_of_ble_eq_true rfl) (RM0.mono hop ?_)
  clear hop
  rintro vv I2 L2 ⟨rfl, hP⟩
  change ZH G n0 xL_law d rc rs _ _ [.int r, .int r] K1 I2 L2 Q
  refine yh_icmp_eq 2342 dL_law_2080 (by decide) (fun _ => ?_) (fun z => absurd rfl z)
  refine yh_iinc (j := 3) (nI (i + 9)) [1, 2, 3, 0] [(0, .ref b), (1, .ref (n0 + 0)), (2, .ref (n0 + 59)), (3, .int (nI (i + 9)))] dL_law_2342 rfl q_nadd (Nat.le_of_ble_eq_true rfl) rfl ?_
  refine yh_goto 18 dL_law_2345 (by decide) ?_
  exact ZH.ofG hP
theorem lw_holds (hG : G.2.2.2 3 = (b, Lx, xs)) (hi : i + 9 ≤ Lx) (hLx : Lx ≤ 4608) (h0 : 0 < K.1) (h12 : (K.2.1 0).1 = 12) (hdc : dc + 1 ≤ d) (hdr : dr + 1 ≤ d)
    (hop : OpA n0 xX12_holds xX13_holds dc dr mc ms [.int (xs (i + 1)), .int (xs (i + 2))] K I L (fun K' I' L' => ZG G n0 xL_law d rc rs 18 [(0, .ref b), (1, .ref (n0 + 0)), (2, .ref (n0 + 59)), (3, .int (nI (i + 9)))] [] K' I' L' Q)) :
    ZH G n0 xL_law d (rc + mc) (rs + ms) 2085 [(0, .ref b), (1, .ref (n0 + 0)), (2, .ref (n0 + 59)), (3, .int (nI i))] [] K I L Q := by
  refine yh_aload_n 1 dL_law_2085 rfl ?_
  refine yh_aload_n 0 dL_law_2086 rfl ?_
  refine yh_iload_n 3 dL_law_2087 rfl ?_
  refine yh_iconst 1 dL_law_2088 (by decide) ?_
  refine yh_iadd dL_law_2089 ?_
  refine yh_sld hG dL_law_2090 (law_ix (c := 1) (j := 1) rfl hi hLx (by omega)) ?_
  rw [law_cl (c := 1) (j := 1) rfl hi hLx (by omega)]
  refine yh_aload_n 0 dL_law_2091 rfl ?_
  refine yh_iload_n 3 dL_law_2092 rfl ?_
  refine yh_iconst 2 dL_law_2093 (by decide) ?_
  refine yh_iadd dL_law_2094 ?_
  refine yh_sld hG dL_law_2095 (law_ix (c := 2) (j := 2) rfl hi hLx (by omega)) ?_
  rw [law_cl (c := 2) (j := 2) rfl hi hLx (by omega)]
  refine yh_callV (rc := rc) (rs := rs) (mc1 := mc) (ms1 := ms) (k := 0) (c := 12) (As := [.int (xs (i + 1)), .int (xs (i + 2))]) dL_law_2096 hy_X12_holds h0 h12 (by decide) wg_1292 wg_1293 wg_1294 hdc (Nat.le_of_ble_eq_true rfl) (RM.mono hop ?_)
  clear hop
  rintro vv K1 I1 L1 ⟨r, rfl, hop⟩
  change ZH G n0 xL_law d rc rs _ _ [.int r] K1 I1 L1 Q
  refine yh_aload_n 2 dL_law_2099 rfl ?_
  refine yh_aload_n 0 dL_law_2100 rfl ?_
  refine yh_iload_n 3 dL_law_2101 rfl ?_
  refine yh_iconst 1 dL_law_2102 (by decide) ?_
  refine yh_iadd dL_law_2103 ?_
  refine yh_sld hG dL_law_2104 (law_ix (c := 1) (j := 1) rfl hi hLx (by omega)) ?_
  rw [law_cl (c := 1) (j := 1) rfl hi hLx (by omega)]
  refine yh_aload_n 0 dL_law_2105 rfl ?_
  refine yh_iload_n 3 dL_law_2106 rfl ?_
  refine yh_iconst 2 dL_law_2107 (by decide) ?_
  refine yh_iadd dL_law_2108 ?_
  refine yh_sld hG dL_law_2109 (law_ix (c := 2) (j := 2) rfl hi hLx (by omega)) ?_
  rw [law_cl (c := 2) (j := 2) rfl hi hLx (by omega)]
  refine yh_callM (As := [.int (xs (i + 1)), .int (xs (i + 2))]) (st := [.int r]) dL_law_2110 hy_X13_holds wg_2186 wg_2187 wg_2188 hdr (Nat.le_of_ble_eq_true rfl) (RM0.mono hop ?_)
  clear hop
  rintro vv I2 L2 ⟨rfl, hP⟩
  change ZH G n0 xL_law d rc rs _ _ [.int r, .int r] K1 I2 L2 Q
  refine yh_icmp_eq 2342 dL_law_2113 (by decide) (fun _ => ?_) (fun z => absurd rfl z)
  refine yh_iinc (j := 3) (nI (i + 9)) [1, 2, 3, 0] [(0, .ref b), (1, .ref (n0 + 0)), (2, .ref (n0 + 59)), (3, .int (nI (i + 9)))] dL_law_2342 rfl q_nadd (Nat.le_of_ble_eq_true rfl) rfl ?_
  refine yh_goto 18 dL_law_2345 (by decide) ?_
  exact ZH.ofG hP
theorem lw_word (hG : G.2.2.2 3 = (b, Lx, xs)) (hi : i + 9 ≤ Lx) (hLx : Lx ≤ 4608) (h0 : 0 < K.1) (h12 : (K.2.1 0).1 = 12) (hdc : dc + 1 ≤ d) (hdr : dr + 1 ≤ d)
    (hop : OpA n0 xX12_word xX13_word dc dr mc ms [.int (xs (i + 1)), .int (xs (i + 2)), .int (xs (i + 3)), .int (xs (i + 4))] K I L (fun K' I' L' => ZG G n0 xL_law d rc rs 18 [(0, .ref b), (1, .ref (n0 + 0)), (2, .ref (n0 + 59)), (3, .int (nI (i + 9)))] [] K' I' L' Q)) :
    ZH G n0 xL_law d (rc + mc) (rs + ms) 2118 [(0, .ref b), (1, .ref (n0 + 0)), (2, .ref (n0 + 59)), (3, .int (nI i))] [] K I L Q := by
  refine yh_aload_n 1 dL_law_2118 rfl ?_
  refine yh_aload_n 0 dL_law_2119 rfl ?_
  refine yh_iload_n 3 dL_law_2120 rfl ?_
  refine yh_iconst 1 dL_law_2121 (by decide) ?_
  refine yh_iadd dL_law_2122 ?_
  refine yh_sld hG dL_law_2123 (law_ix (c := 1) (j := 1) rfl hi hLx (by omega)) ?_
  rw [law_cl (c := 1) (j := 1) rfl hi hLx (by omega)]
  refine yh_aload_n 0 dL_law_2124 rfl ?_
  refine yh_iload_n 3 dL_law_2125 rfl ?_
  refine yh_iconst 2 dL_law_2126 (by decide) ?_
  refine yh_iadd dL_law_2127 ?_
  refine yh_sld hG dL_law_2128 (law_ix (c := 2) (j := 2) rfl hi hLx (by omega)) ?_
  rw [law_cl (c := 2) (j := 2) rfl hi hLx (by omega)]
  refine yh_aload_n 0 dL_law_2129 rfl ?_
  refine yh_iload_n 3 dL_law_2130 rfl ?_
  refine yh_iconst 3 dL_law_2131 (by decide) ?_
  refine yh_iadd dL_law_2132 ?_
  refine yh_sld hG dL_law_2133 (law_ix (c := 3) (j := 3) rfl hi hLx (by omega)) ?_
  rw [law_cl (c := 3) (j := 3) rfl hi hLx (by omega)]
  refine yh_aload_n 0 dL_law_2134 rfl ?_
  refine yh_iload_n 3 dL_law_2135 rfl ?_
  refine yh_iconst 4 dL_law_2136 (by decide) ?_
  refine yh_iadd dL_law_2137 ?_
  refine yh_sld hG dL_law_2138 (law_ix (c := 4) (j := 4) rfl hi hLx (by omega)) ?_
  rw [law_cl (c := 4) (j := 4) rfl hi hLx (by omega)]
  refine yh_callV (rc := rc) (rs := rs) (mc1 := mc) (ms1 := ms) (k := 0) (c := 12) (As := [.int (xs (i + 1)), .int (xs (i + 2)), .int (xs (i + 3)), .int (xs (i + 4))]) dL_law_2139 hy_X12_word h0 h12 (by decide) wg_1304 wg_1305 wg_1306 hdc (Nat.le_of_ble_eq_true rfl) (RM.mono hop ?_)
  clear hop
  rintro vv K1 I1 L1 ⟨r, rfl, hop⟩
  change ZH G n0 xL_law d rc rs _ _ [.int r] K1 I1 L1 Q
  refine yh_aload_n 2 dL_law_2142 rfl ?_
  refine yh_aload_n 0 dL_law_2143 rfl ?_
  refine yh_iload_n 3 dL_law_2144 rfl ?_
  refine yh_iconst 1 dL_law_2145 (by decide) ?_
  refine yh_iadd dL_law_2146 ?_
  refine yh_sld hG dL_law_2147 (law_ix (c := 1) (j := 1) rfl hi hLx (by omega)) ?_
  rw [law_cl (c := 1) (j := 1) rfl hi hLx (by omega)]
  refine yh_aload_n 0 dL_law_2148 rfl ?_
  refine yh_iload_n 3 dL_law_2149 rfl ?_
  refine yh_iconst 2 dL_law_2150 (by decide) ?_
  refine yh_iadd dL_law_2151 ?_
  refine yh_sld hG dL_law_2152 (law_ix (c := 2) (j := 2) rfl hi hLx (by omega)) ?_
  rw [law_cl (c := 2) (j := 2) rfl hi hLx (by omega)]
  refine yh_aload_n 0 dL_law_2153 rfl ?_
  refine yh_iload_n 3 dL_law_2154 rfl ?_
  refine yh_iconst 3 dL_law_2155 (by decide) ?_
  refine yh_iadd dL_law_2156 ?_
  refine yh_sld hG dL_law_2157 (law_ix (c := 3) (j := 3) rfl hi hLx (by omega)) ?_
  rw [law_cl (c := 3) (j := 3) rfl hi hLx (by omega)]
  refine yh_aload_n 0 dL_law_2158 rfl ?_
  refine yh_iload_n 3 dL_law_2159 rfl ?_
  refine yh_iconst 4 dL_law_2160 (by decide) ?_
  refine yh_iadd dL_law_2161 ?_
  refine yh_sld hG dL_law_2162 (law_ix (c := 4) (j := 4) rfl hi hLx (by omega)) ?_
  rw [law_cl (c := 4) (j := 4) rfl hi hLx (by omega)]
  refine yh_callM (As := [.int (xs (i + 1)), .int (xs (i + 2)), .int (xs (i + 3)), .int (xs (i + 4))]) (st := [.int r]) dL_law_2163 hy_X13_word wg_2190 wg_2191 wg_2192 hdr (Nat.le_of_ble_eq_true rfl) (RM0.mono hop ?_)
  clear hop
  rintro vv I2 L2 ⟨rfl, hP⟩
  change ZH G n0 xL_law d rc rs _ _ [.int r, .int r] K1 I2 L2 Q
  refine yh_icmp_eq 2342 dL_law_2166 (by decide) (fun _ => ?_) (fun z => absurd rfl z)
  refine yh_iinc (j := 3) (nI (i + 9)) [1, 2, 3, 0] [(0, .ref b), (1, .ref (n0 + 0)), (2, .ref (n0 + 59)), (3, .int (nI (i + 9)))] dL_law_2342 rfl q_nadd (Nat.le_of_ble_eq_true rfl) rfl ?_
  refine yh_goto 18 dL_law_2345 (by decide) ?_
  exact ZH.ofG hP
theorem lw_firstWrong (hG : G.2.2.2 3 = (b, Lx, xs)) (hi : i + 9 ≤ Lx) (hLx : Lx ≤ 4608) (h0 : 0 < K.1) (h12 : (K.2.1 0).1 = 12) (hdc : dc + 1 ≤ d) (hdr : dr + 1 ≤ d)
    (hop : OpA n0 xX12_firstWrong xX13_firstWrong dc dr mc ms [.int (xs (i + 1))] K I L (fun K' I' L' => ZG G n0 xL_law d rc rs 18 [(0, .ref b), (1, .ref (n0 + 0)), (2, .ref (n0 + 59)), (3, .int (nI (i + 9)))] [] K' I' L' Q)) :
    ZH G n0 xL_law d (rc + mc) (rs + ms) 2171 [(0, .ref b), (1, .ref (n0 + 0)), (2, .ref (n0 + 59)), (3, .int (nI i))] [] K I L Q := by
  refine yh_aload_n 1 dL_law_2171 rfl ?_
  refine yh_aload_n 0 dL_law_2172 rfl ?_
  refine yh_iload_n 3 dL_law_2173 rfl ?_
  refine yh_iconst 1 dL_law_2174 (by decide) ?_
  refine yh_iadd dL_law_2175 ?_
  refine yh_sld hG dL_law_2176 (law_ix (c := 1) (j := 1) rfl hi hLx (by omega)) ?_
  rw [law_cl (c := 1) (j := 1) rfl hi hLx (by omega)]
  refine yh_callV (rc := rc) (rs := rs) (mc1 := mc) (ms1 := ms) (k := 0) (c := 12) (As := [.int (xs (i + 1))]) dL_law_2177 hy_X12_firstWrong h0 h12 (by decide) wg_1312 wg_1313 wg_1314 hdc (Nat.le_of_ble_eq_true rfl) (RM.mono hop ?_)
  clear hop
  rintro vv K1 I1 L1 ⟨r, rfl, hop⟩
  change ZH G n0 xL_law d rc rs _ _ [.int r] K1 I1 L1 Q
  refine yh_aload_n 2 dL_law_2180 rfl ?_
  refine yh_aload_n 0 dL_law_2181 rfl ?_
  refine yh_iload_n 3 dL_law_2182 rfl ?_
  refine yh_iconst 1 dL_law_2183 (by decide) ?_
  refine yh_iadd dL_law_2184 ?_
  refine yh_sld hG dL_law_2185 (law_ix (c := 1) (j := 1) rfl hi hLx (by omega)) ?_
  rw [law_cl (c := 1) (j := 1) rfl hi hLx (by omega)]
  refine yh_callM (As := [.int (xs (i + 1))]) (st := [.int r]) dL_law_2186 hy_X13_firstWrong wg_2198 wg_2199 wg_2200 hdr (Nat.le_of_ble_eq_true rfl) (RM0.mono hop ?_)
  clear hop
  rintro vv I2 L2 ⟨rfl, hP⟩
  change ZH G n0 xL_law d rc rs _ _ [.int r, .int r] K1 I2 L2 Q
  refine yh_icmp_eq 2342 dL_law_2189 (by decide) (fun _ => ?_) (fun z => absurd rfl z)
  refine yh_iinc (j := 3) (nI (i + 9)) [1, 2, 3, 0] [(0, .ref b), (1, .ref (n0 + 0)), (2, .ref (n0 + 59)), (3, .int (nI (i + 9)))] dL_law_2342 rfl q_nadd (Nat.le_of_ble_eq_true rfl) rfl ?_
  refine yh_goto 18 dL_law_2345 (by decide) ?_
  exact ZH.ofG hP
theorem lw_fault (hG : G.2.2.2 3 = (b, Lx, xs)) (hi : i + 9 ≤ Lx) (hLx : Lx ≤ 4608) (h0 : 0 < K.1) (h12 : (K.2.1 0).1 = 12) (hdc : dc + 1 ≤ d) (hdr : dr + 1 ≤ d)
    (hop : OpA n0 xX12_fault xX13_fault dc dr mc ms [.int (xs (i + 1))] K I L (fun K' I' L' => ZG G n0 xL_law d rc rs 18 [(0, .ref b), (1, .ref (n0 + 0)), (2, .ref (n0 + 59)), (3, .int (nI (i + 9)))] [] K' I' L' Q)) :
    ZH G n0 xL_law d (rc + mc) (rs + ms) 2194 [(0, .ref b), (1, .ref (n0 + 0)), (2, .ref (n0 + 59)), (3, .int (nI i))] [] K I L Q := by
  refine yh_aload_n 1 dL_law_2194 rfl ?_
  refine yh_aload_n 0 dL_law_2195 rfl ?_
  refine yh_iload_n 3 dL_law_2196 rfl ?_
  refine yh_iconst 1 dL_law_2197 (by decide) ?_
  refine yh_iadd dL_law_2198 ?_
  refine yh_sld hG dL_law_2199 (law_ix (c := 1) (j := 1) rfl hi hLx (by omega)) ?_
  rw [law_cl (c := 1) (j := 1) rfl hi hLx (by omega)]
  refine yh_callV (rc := rc) (rs := rs) (mc1 := mc) (ms1 := ms) (k := 0) (c := 12) (As := [.int (xs (i + 1))]) dL_law_2200 hy_X12_fault h0 h12 (by decide) wg_1320 wg_1321 wg_1322 hdc (Nat.le_of_ble_eq_true rfl) (RM.mono hop ?_)
  clear hop
  rintro vv K1 I1 L1 ⟨r, rfl, hop⟩
  change ZH G n0 xL_law d rc rs _ _ [.int r] K1 I1 L1 Q
  refine yh_aload_n 2 dL_law_2203 rfl ?_
  refine yh_aload_n 0 dL_law_2204 rfl ?_
  refine yh_iload_n 3 dL_law_2205 rfl ?_
  refine yh_iconst 1 dL_law_2206 (by decide) ?_
  refine yh_iadd dL_law_2207 ?_
  refine yh_sld hG dL_law_2208 (law_ix (c := 1) (j := 1) rfl hi hLx (by omega)) ?_
  rw [law_cl (c := 1) (j := 1) rfl hi hLx (by omega)]
  refine yh_callM (As := [.int (xs (i + 1))]) (st := [.int r]) dL_law_2209 hy_X13_fault wg_2206 wg_2207 wg_2208 hdr (Nat.le_of_ble_eq_true rfl) (RM0.mono hop ?_)
  clear hop
  rintro vv I2 L2 ⟨rfl, hP⟩
  change ZH G n0 xL_law d rc rs _ _ [.int r, .int r] K1 I2 L2 Q
  refine yh_icmp_eq 2342 dL_law_2212 (by decide) (fun _ => ?_) (fun z => absurd rfl z)
  refine yh_iinc (j := 3) (nI (i + 9)) [1, 2, 3, 0] [(0, .ref b), (1, .ref (n0 + 0)), (2, .ref (n0 + 59)), (3, .int (nI (i + 9)))] dL_law_2342 rfl q_nadd (Nat.le_of_ble_eq_true rfl) rfl ?_
  refine yh_goto 18 dL_law_2345 (by decide) ?_
  exact ZH.ofG hP
theorem lw_order (hG : G.2.2.2 3 = (b, Lx, xs)) (hi : i + 9 ≤ Lx) (hLx : Lx ≤ 4608) (h0 : 0 < K.1) (h12 : (K.2.1 0).1 = 12) (hdc : dc + 1 ≤ d) (hdr : dr + 1 ≤ d)
    (hop : OpA n0 xX12_order xX13_order dc dr mc ms [.int (xs (i + 1)), .int (xs (i + 2))] K I L (fun K' I' L' => ZG G n0 xL_law d rc rs 18 [(0, .ref b), (1, .ref (n0 + 0)), (2, .ref (n0 + 59)), (3, .int (nI (i + 9)))] [] K' I' L' Q)) :
    ZH G n0 xL_law d (rc + mc) (rs + ms) 2217 [(0, .ref b), (1, .ref (n0 + 0)), (2, .ref (n0 + 59)), (3, .int (nI i))] [] K I L Q := by
  refine yh_aload_n 1 dL_law_2217 rfl ?_
  refine yh_aload_n 0 dL_law_2218 rfl ?_
  refine yh_iload_n 3 dL_law_2219 rfl ?_
  refine yh_iconst 1 dL_law_2220 (by decide) ?_
  refine yh_iadd dL_law_2221 ?_
  refine yh_sld hG dL_law_2222 (law_ix (c := 1) (j := 1) rfl hi hLx (by omega)) ?_
  rw [law_cl (c := 1) (j := 1) rfl hi hLx (by omega)]
  refine yh_aload_n 0 dL_law_2223 rfl ?_
  refine yh_iload_n 3 dL_law_2224 rfl ?_
  refine yh_iconst 2 dL_law_2225 (by decide) ?_
  refine yh_iadd dL_law_2226 ?_
  refine yh_sld hG dL_law_2227 (law_ix (c := 2) (j := 2) rfl hi hLx (by omega)) ?_
  rw [law_cl (c := 2) (j := 2) rfl hi hLx (by omega)]
  refine yh_callV (rc := rc) (rs := rs) (mc1 := mc) (ms1 := ms) (k := 0) (c := 12) (As := [.int (xs (i + 1)), .int (xs (i + 2))]) dL_law_2228 hy_X12_order h0 h12 (by decide) wg_1332 wg_1333 wg_1334 hdc (Nat.le_of_ble_eq_true rfl) (RM.mono hop ?_)
  clear hop
  rintro vv K1 I1 L1 ⟨r, rfl, hop⟩
  change ZH G n0 xL_law d rc rs _ _ [.int r] K1 I1 L1 Q
  refine yh_aload_n 2 dL_law_2231 rfl ?_
  refine yh_aload_n 0 dL_law_2232 rfl ?_
  refine yh_iload_n 3 dL_law_2233 rfl ?_
  refine yh_iconst 1 dL_law_2234 (by decide) ?_
  refine yh_iadd dL_law_2235 ?_
  refine yh_sld hG dL_law_2236 (law_ix (c := 1) (j := 1) rfl hi hLx (by omega)) ?_
  rw [law_cl (c := 1) (j := 1) rfl hi hLx (by omega)]
  refine yh_aload_n 0 dL_law_2237 rfl ?_
  refine yh_iload_n 3 dL_law_2238 rfl ?_
  refine yh_iconst 2 dL_law_2239 (by decide) ?_
  refine yh_iadd dL_law_2240 ?_
  refine yh_sld hG dL_law_2241 (law_ix (c := 2) (j := 2) rfl hi hLx (by omega)) ?_
  rw [law_cl (c := 2) (j := 2) rfl hi hLx (by omega)]
  refine yh_callM (As := [.int (xs (i + 1)), .int (xs (i + 2))]) (st := [.int r]) dL_law_2242 hy_X13_order wg_2210 wg_2211 wg_2212 hdr (Nat.le_of_ble_eq_true rfl) (RM0.mono hop ?_)
  clear hop
  rintro vv I2 L2 ⟨rfl, hP⟩
  change ZH G n0 xL_law d rc rs _ _ [.int r, .int r] K1 I2 L2 Q
  refine yh_icmp_eq 2342 dL_law_2245 (by decide) (fun _ => ?_) (fun z => absurd rfl z)
  refine yh_iinc (j := 3) (nI (i + 9)) [1, 2, 3, 0] [(0, .ref b), (1, .ref (n0 + 0)), (2, .ref (n0 + 59)), (3, .int (nI (i + 9)))] dL_law_2342 rfl q_nadd (Nat.le_of_ble_eq_true rfl) rfl ?_
  refine yh_goto 18 dL_law_2345 (by decide) ?_
  exact ZH.ofG hP
theorem lw_marker (hG : G.2.2.2 3 = (b, Lx, xs)) (hi : i + 9 ≤ Lx) (hLx : Lx ≤ 4608) (h0 : 0 < K.1) (h12 : (K.2.1 0).1 = 12) (hdc : dc + 1 ≤ d) (hdr : dr + 1 ≤ d)
    (hop : OpA n0 xX12_marker xX13_marker dc dr mc ms [.int (xs (i + 1)), .int (xs (i + 2))] K I L (fun K' I' L' => ZG G n0 xL_law d rc rs 18 [(0, .ref b), (1, .ref (n0 + 0)), (2, .ref (n0 + 59)), (3, .int (nI (i + 9)))] [] K' I' L' Q)) :
    ZH G n0 xL_law d (rc + mc) (rs + ms) 2250 [(0, .ref b), (1, .ref (n0 + 0)), (2, .ref (n0 + 59)), (3, .int (nI i))] [] K I L Q := by
  refine yh_aload_n 1 dL_law_2250 rfl ?_
  refine yh_aload_n 0 dL_law_2251 rfl ?_
  refine yh_iload_n 3 dL_law_2252 rfl ?_
  refine yh_iconst 1 dL_law_2253 (by decide) ?_
  refine yh_iadd dL_law_2254 ?_
  refine yh_sld hG dL_law_2255 (law_ix (c := 1) (j := 1) rfl hi hLx (by omega)) ?_
  rw [law_cl (c := 1) (j := 1) rfl hi hLx (by omega)]
  refine yh_aload_n 0 dL_law_2256 rfl ?_
  refine yh_iload_n 3 dL_law_2257 rfl ?_
  refine yh_iconst 2 dL_law_2258 (by decide) ?_
  refine yh_iadd dL_law_2259 ?_
  refine yh_sld hG dL_law_2260 (law_ix (c := 2) (j := 2) rfl hi hLx (by omega)) ?_
  rw [law_cl (c := 2) (j := 2) rfl hi hLx (by omega)]
  refine yh_callV (rc := rc) (rs := rs) (mc1 := mc) (ms1 := ms) (k := 0) (c := 12) (As := [.int (xs (i + 1)), .int (xs (i + 2))]) dL_law_2261 hy_X12_marker h0 h12 (by decide) wg_1336 wg_1337 wg_1338 hdc (Nat.le_of_ble_eq_true rfl) (RM.mono hop ?_)
  clear hop
  rintro vv K1 I1 L1 ⟨r, rfl, hop⟩
  change ZH G n0 xL_law d rc rs _ _ [.int r] K1 I1 L1 Q
  refine yh_aload_n 2 dL_law_2264 rfl ?_
  refine yh_aload_n 0 dL_law_2265 rfl ?_
  refine yh_iload_n 3 dL_law_2266 rfl ?_
  refine yh_iconst 1 dL_law_2267 (by decide) ?_
  refine yh_iadd dL_law_2268 ?_
  refine yh_sld hG dL_law_2269 (law_ix (c := 1) (j := 1) rfl hi hLx (by omega)) ?_
  rw [law_cl (c := 1) (j := 1) rfl hi hLx (by omega)]
  refine yh_aload_n 0 dL_law_2270 rfl ?_
  refine yh_iload_n 3 dL_law_2271 rfl ?_
  refine yh_iconst 2 dL_law_2272 (by decide) ?_
  refine yh_iadd dL_law_2273 ?_
  refine yh_sld hG dL_law_2274 (law_ix (c := 2) (j := 2) rfl hi hLx (by omega)) ?_
  rw [law_cl (c := 2) (j := 2) rfl hi hLx (by omega)]
  refine yh_callM (As := [.int (xs (i + 1)), .int (xs (i + 2))]) (st := [.int r]) dL_law_2275 hy_X13_marker wg_2215 wg_2216 wg_2217 hdr (Nat.le_of_ble_eq_true rfl) (RM0.mono hop ?_)
  clear hop
  rintro vv I2 L2 ⟨rfl, hP⟩
  change ZH G n0 xL_law d rc rs _ _ [.int r, .int r] K1 I2 L2 Q
  refine yh_icmp_eq 2342 dL_law_2278 (by decide) (fun _ => ?_) (fun z => absurd rfl z)
  refine yh_iinc (j := 3) (nI (i + 9)) [1, 2, 3, 0] [(0, .ref b), (1, .ref (n0 + 0)), (2, .ref (n0 + 59)), (3, .int (nI (i + 9)))] dL_law_2342 rfl q_nadd (Nat.le_of_ble_eq_true rfl) rfl ?_
  refine yh_goto 18 dL_law_2345 (by decide) ?_
  exact ZH.ofG hP
end LAWC
