/-! ===== the law: cases ===== -/
theorem lc_48 {K : lx_K} {i b L : Nat} {xs : Nat → Int32} {μC μM : o_Mem} (h : Inv μC μM) (hi : i + 6 ≤ L) (hL : L ≤ 3072) (kk : ∀ μC' μM', Inv μC' μM' → lq_Ev K 2425 i b L xs [] μC' μM') : lq_Ev K 2046 i b L xs [] μC μM := by
  refine lq_a1 dL_2046 ?_
  refine lq_ld (j := 1) (by omega) hL (show Int32.ofInt 1 = 1 by decide) rfl dL_2047 dL_2048 dL_2049 dL_2050 dL_2051 ?_
  refine lq_ld (j := 2) (by omega) hL (show Int32.ofInt 2 = 2 by decide) rfl dL_2052 dL_2053 dL_2054 dL_2055 dL_2056 ?_
  obtain ⟨r, μ1, μ2, e1, e2, h2⟩ := pu_spells h (xs (i + 1)) (xs (i + 2))
  refine lq_callC (d := 30) (C := mX11_spells) (As := [.int (xs (i + 1)), .int (xs (i + 2))]) clL_222 dL_2057 rfl rfl (Nat.le_of_ble_eq_true rfl) (Nat.le_of_ble_eq_true rfl) (by decide) (dnX11_spells (q := fun x ν => x = r ∧ ν = μ1) (d := 24) (xC_ok K) (xC_0 K) ⟨_, e1, rfl, rfl⟩) (fun v ν hv => ?_)
  obtain ⟨x, rfl, hr, hm⟩ := hv
  rw [hr, hm]
  show lq_Ev K 2060 i b L xs [.int r] μ1 μM
  refine lq_a2 dL_2060 ?_
  refine lq_ld (j := 1) (by omega) hL (show Int32.ofInt 1 = 1 by decide) rfl dL_2061 dL_2062 dL_2063 dL_2064 dL_2065 ?_
  refine lq_ld (j := 2) (by omega) hL (show Int32.ofInt 2 = 2 by decide) rfl dL_2066 dL_2067 dL_2068 dL_2069 dL_2070 ?_
  refine lq_callM (d := 30) (C := mX12_spells) (As := [.int (xs (i + 1)), .int (xs (i + 2))]) clL_225 dL_2071 rfl rfl (Nat.le_of_ble_eq_true rfl) (Nat.le_of_ble_eq_true rfl) (by decide) (dnX12_spells (q := fun x ν => x = r ∧ ν = μ2) (d := 24) (xM_ok K) (xM_0 K) ⟨_, e2, rfl, rfl⟩) (fun v ν hv => ?_)
  obtain ⟨x, rfl, hr, hm⟩ := hv
  rw [hr, hm]
  show lq_Ev K 2074 i b L xs [.int r, .int r] μ1 μ2
  exact lq_eq (tgt := 2425) dL_2074 (by decide) rfl (kk _ _ h2)
theorem lc_49 {K : lx_K} {i b L : Nat} {xs : Nat → Int32} {μC μM : o_Mem} (h : Inv μC μM) (hi : i + 6 ≤ L) (hL : L ≤ 3072) (kk : ∀ μC' μM', Inv μC' μM' → lq_Ev K 2425 i b L xs [] μC' μM') : lq_Ev K 2079 i b L xs [] μC μM := by
  refine lq_a1 dL_2079 ?_
  refine lq_ld (j := 1) (by omega) hL (show Int32.ofInt 1 = 1 by decide) rfl dL_2080 dL_2081 dL_2082 dL_2083 dL_2084 ?_
  refine lq_ld (j := 2) (by omega) hL (show Int32.ofInt 2 = 2 by decide) rfl dL_2085 dL_2086 dL_2087 dL_2088 dL_2089 ?_
  refine lq_ld (j := 3) (by omega) hL (show Int32.ofInt 3 = 3 by decide) rfl dL_2090 dL_2091 dL_2092 dL_2093 dL_2094 ?_
  refine lq_ld (j := 4) (by omega) hL (show Int32.ofInt 4 = 4 by decide) rfl dL_2095 dL_2096 dL_2097 dL_2098 dL_2099 ?_
  obtain ⟨r, μ1, μ2, e1, e2, h2⟩ := pu_spellAt h (xs (i + 1)) (xs (i + 2)) (xs (i + 3)) (xs (i + 4))
  refine lq_callC (d := 30) (C := mX11_spellAt) (As := [.int (xs (i + 1)), .int (xs (i + 2)), .int (xs (i + 3)), .int (xs (i + 4))]) clL_226 dL_2100 rfl rfl (Nat.le_of_ble_eq_true rfl) (Nat.le_of_ble_eq_true rfl) (by decide) (dnX11_spellAt (q := fun x ν => x = r ∧ ν = μ1) (d := 24) (xC_ok K) (xC_0 K) ⟨_, e1, rfl, rfl⟩) (fun v ν hv => ?_)
  obtain ⟨x, rfl, hr, hm⟩ := hv
  rw [hr, hm]
  show lq_Ev K 2103 i b L xs [.int r] μ1 μM
  refine lq_a2 dL_2103 ?_
  refine lq_ld (j := 1) (by omega) hL (show Int32.ofInt 1 = 1 by decide) rfl dL_2104 dL_2105 dL_2106 dL_2107 dL_2108 ?_
  refine lq_ld (j := 2) (by omega) hL (show Int32.ofInt 2 = 2 by decide) rfl dL_2109 dL_2110 dL_2111 dL_2112 dL_2113 ?_
  refine lq_ld (j := 3) (by omega) hL (show Int32.ofInt 3 = 3 by decide) rfl dL_2114 dL_2115 dL_2116 dL_2117 dL_2118 ?_
  refine lq_ld (j := 4) (by omega) hL (show Int32.ofInt 4 = 4 by decide) rfl dL_2119 dL_2120 dL_2121 dL_2122 dL_2123 ?_
  refine lq_callM (d := 30) (C := mX12_spellAt) (As := [.int (xs (i + 1)), .int (xs (i + 2)), .int (xs (i + 3)), .int (xs (i + 4))]) clL_229 dL_2124 rfl rfl (Nat.le_of_ble_eq_true rfl) (Nat.le_of_ble_eq_true rfl) (by decide) (dnX12_spellAt (q := fun x ν => x = r ∧ ν = μ2) (d := 24) (xM_ok K) (xM_0 K) ⟨_, e2, rfl, rfl⟩) (fun v ν hv => ?_)
  obtain ⟨x, rfl, hr, hm⟩ := hv
  rw [hr, hm]
  show lq_Ev K 2127 i b L xs [.int r, .int r] μ1 μ2
  exact lq_eq (tgt := 2425) dL_2127 (by decide) rfl (kk _ _ h2)
theorem lc_50 {K : lx_K} {i b L : Nat} {xs : Nat → Int32} {μC μM : o_Mem} (h : Inv μC μM) (hi : i + 6 ≤ L) (hL : L ≤ 3072) (kk : ∀ μC' μM', Inv μC' μM' → lq_Ev K 2425 i b L xs [] μC' μM') : lq_Ev K 2132 i b L xs [] μC μM := by
  refine lq_a1 dL_2132 ?_
  refine lq_ld (j := 1) (by omega) hL (show Int32.ofInt 1 = 1 by decide) rfl dL_2133 dL_2134 dL_2135 dL_2136 dL_2137 ?_
  refine lq_ld (j := 2) (by omega) hL (show Int32.ofInt 2 = 2 by decide) rfl dL_2138 dL_2139 dL_2140 dL_2141 dL_2142 ?_
  refine lq_ld (j := 3) (by omega) hL (show Int32.ofInt 3 = 3 by decide) rfl dL_2143 dL_2144 dL_2145 dL_2146 dL_2147 ?_
  refine lq_ld (j := 4) (by omega) hL (show Int32.ofInt 4 = 4 by decide) rfl dL_2148 dL_2149 dL_2150 dL_2151 dL_2152 ?_
  obtain ⟨r, μ1, μ2, e1, e2, h2⟩ := pu_split h (xs (i + 1)) (xs (i + 2)) (xs (i + 3)) (xs (i + 4))
  refine lq_callC (d := 30) (C := mX11_split) (As := [.int (xs (i + 1)), .int (xs (i + 2)), .int (xs (i + 3)), .int (xs (i + 4))]) clL_230 dL_2153 rfl rfl (Nat.le_of_ble_eq_true rfl) (Nat.le_of_ble_eq_true rfl) (by decide) (dnX11_split (q := fun x ν => x = r ∧ ν = μ1) (d := 26) (xC_ok K) (xC_0 K) ⟨_, e1, rfl, rfl⟩) (fun v ν hv => ?_)
  obtain ⟨x, rfl, hr, hm⟩ := hv
  rw [hr, hm]
  show lq_Ev K 2156 i b L xs [.int r] μ1 μM
  refine lq_a2 dL_2156 ?_
  refine lq_ld (j := 1) (by omega) hL (show Int32.ofInt 1 = 1 by decide) rfl dL_2157 dL_2158 dL_2159 dL_2160 dL_2161 ?_
  refine lq_ld (j := 2) (by omega) hL (show Int32.ofInt 2 = 2 by decide) rfl dL_2162 dL_2163 dL_2164 dL_2165 dL_2166 ?_
  refine lq_ld (j := 3) (by omega) hL (show Int32.ofInt 3 = 3 by decide) rfl dL_2167 dL_2168 dL_2169 dL_2170 dL_2171 ?_
  refine lq_ld (j := 4) (by omega) hL (show Int32.ofInt 4 = 4 by decide) rfl dL_2172 dL_2173 dL_2174 dL_2175 dL_2176 ?_
  refine lq_callM (d := 30) (C := mX12_split) (As := [.int (xs (i + 1)), .int (xs (i + 2)), .int (xs (i + 3)), .int (xs (i + 4))]) clL_233 dL_2177 rfl rfl (Nat.le_of_ble_eq_true rfl) (Nat.le_of_ble_eq_true rfl) (by decide) (dnX12_split (q := fun x ν => x = r ∧ ν = μ2) (d := 28) (xM_ok K) (xM_0 K) ⟨_, e2, rfl, rfl⟩) (fun v ν hv => ?_)
  obtain ⟨x, rfl, hr, hm⟩ := hv
  rw [hr, hm]
  show lq_Ev K 2180 i b L xs [.int r, .int r] μ1 μ2
  exact lq_eq (tgt := 2425) dL_2180 (by decide) rfl (kk _ _ h2)
theorem lc_51 {K : lx_K} {i b L : Nat} {xs : Nat → Int32} {μC μM : o_Mem} (h : Inv μC μM) (hi : i + 6 ≤ L) (hL : L ≤ 3072) (kk : ∀ μC' μM', Inv μC' μM' → lq_Ev K 2425 i b L xs [] μC' μM') : lq_Ev K 2185 i b L xs [] μC μM := by
  refine lq_a1 dL_2185 ?_
  refine lq_ld (j := 1) (by omega) hL (show Int32.ofInt 1 = 1 by decide) rfl dL_2186 dL_2187 dL_2188 dL_2189 dL_2190 ?_
  refine lq_ld (j := 2) (by omega) hL (show Int32.ofInt 2 = 2 by decide) rfl dL_2191 dL_2192 dL_2193 dL_2194 dL_2195 ?_
  refine lq_ld (j := 3) (by omega) hL (show Int32.ofInt 3 = 3 by decide) rfl dL_2196 dL_2197 dL_2198 dL_2199 dL_2200 ?_
  refine lq_ld (j := 4) (by omega) hL (show Int32.ofInt 4 = 4 by decide) rfl dL_2201 dL_2202 dL_2203 dL_2204 dL_2205 ?_
  obtain ⟨r, μ1, μ2, e1, e2, h2⟩ := pu_splitNext h (xs (i + 1)) (xs (i + 2)) (xs (i + 3)) (xs (i + 4))
  refine lq_callC (d := 30) (C := mX11_splitNext) (As := [.int (xs (i + 1)), .int (xs (i + 2)), .int (xs (i + 3)), .int (xs (i + 4))]) clL_234 dL_2206 rfl rfl (Nat.le_of_ble_eq_true rfl) (Nat.le_of_ble_eq_true rfl) (by decide) (dnX11_splitNext (q := fun x ν => x = r ∧ ν = μ1) (d := 26) (xC_ok K) (xC_0 K) ⟨_, e1, rfl, rfl⟩) (fun v ν hv => ?_)
  obtain ⟨x, rfl, hr, hm⟩ := hv
  rw [hr, hm]
  show lq_Ev K 2209 i b L xs [.int r] μ1 μM
  refine lq_a2 dL_2209 ?_
  refine lq_ld (j := 1) (by omega) hL (show Int32.ofInt 1 = 1 by decide) rfl dL_2210 dL_2211 dL_2212 dL_2213 dL_2214 ?_
  refine lq_ld (j := 2) (by omega) hL (show Int32.ofInt 2 = 2 by decide) rfl dL_2215 dL_2216 dL_2217 dL_2218 dL_2219 ?_
  refine lq_ld (j := 3) (by omega) hL (show Int32.ofInt 3 = 3 by decide) rfl dL_2220 dL_2221 dL_2222 dL_2223 dL_2224 ?_
  refine lq_ld (j := 4) (by omega) hL (show Int32.ofInt 4 = 4 by decide) rfl dL_2225 dL_2226 dL_2227 dL_2228 dL_2229 ?_
  refine lq_callM (d := 30) (C := mX12_splitNext) (As := [.int (xs (i + 1)), .int (xs (i + 2)), .int (xs (i + 3)), .int (xs (i + 4))]) clL_237 dL_2230 rfl rfl (Nat.le_of_ble_eq_true rfl) (Nat.le_of_ble_eq_true rfl) (by decide) (dnX12_splitNext (q := fun x ν => x = r ∧ ν = μ2) (d := 28) (xM_ok K) (xM_0 K) ⟨_, e2, rfl, rfl⟩) (fun v ν hv => ?_)
  obtain ⟨x, rfl, hr, hm⟩ := hv
  rw [hr, hm]
  show lq_Ev K 2233 i b L xs [.int r, .int r] μ1 μ2
  exact lq_eq (tgt := 2425) dL_2233 (by decide) rfl (kk _ _ h2)
theorem lc_52 {K : lx_K} {i b L : Nat} {xs : Nat → Int32} {μC μM : o_Mem} (h : Inv μC μM) (hi : i + 6 ≤ L) (hL : L ≤ 3072) (kk : ∀ μC' μM', Inv μC' μM' → lq_Ev K 2425 i b L xs [] μC' μM') : lq_Ev K 2238 i b L xs [] μC μM := by
  refine lq_a1 dL_2238 ?_
  obtain ⟨r, μ1, μ2, e1, e2, h2⟩ := pu_lawsUsed h 
  refine lq_callC (d := 30) (C := mX11_lawsUsed) (As := []) clL_238 dL_2239 rfl rfl (Nat.le_of_ble_eq_true rfl) (Nat.le_of_ble_eq_true rfl) (by decide) (dnX11_lawsUsed (q := fun x ν => x = r ∧ ν = μ1) (d := 28) (xC_ok K) (xC_0 K) ⟨_, e1, rfl, rfl⟩) (fun v ν hv => ?_)
  obtain ⟨x, rfl, hr, hm⟩ := hv
  rw [hr, hm]
  show lq_Ev K 2242 i b L xs [.int r] μ1 μM
  refine lq_a2 dL_2242 ?_
  refine lq_callM (d := 30) (C := mX12_lawsUsed) (As := []) clL_241 dL_2243 rfl rfl (Nat.le_of_ble_eq_true rfl) (Nat.le_of_ble_eq_true rfl) (by decide) (dnX12_lawsUsed (q := fun x ν => x = r ∧ ν = μ2) (d := 27) (xM_ok K) (xM_0 K) ⟨_, e2, rfl, rfl⟩) (fun v ν hv => ?_)
  obtain ⟨x, rfl, hr, hm⟩ := hv
  rw [hr, hm]
  show lq_Ev K 2246 i b L xs [.int r, .int r] μ1 μ2
  exact lq_eq (tgt := 2425) dL_2246 (by decide) rfl (kk _ _ h2)
theorem lc_53 {K : lx_K} {i b L : Nat} {xs : Nat → Int32} {μC μM : o_Mem} (h : Inv μC μM) (hi : i + 6 ≤ L) (hL : L ≤ 3072) (kk : ∀ μC' μM', Inv μC' μM' → lq_Ev K 2425 i b L xs [] μC' μM') : lq_Ev K 2251 i b L xs [] μC μM := by
  refine lq_a1 dL_2251 ?_
  refine lq_ld (j := 1) (by omega) hL (show Int32.ofInt 1 = 1 by decide) rfl dL_2252 dL_2253 dL_2254 dL_2255 dL_2256 ?_
  obtain ⟨r, μ1, μ2, e1, e2, h2⟩ := pu_game h (xs (i + 1))
  refine lq_callC (d := 30) (C := mX11_game) (As := [.int (xs (i + 1))]) clL_242 dL_2257 rfl rfl (Nat.le_of_ble_eq_true rfl) (Nat.le_of_ble_eq_true rfl) (by decide) (dnX11_game (q := fun x ν => x = r ∧ ν = μ1) (d := 18) (xC_ok K) (xC_0 K) ⟨_, e1, rfl, rfl⟩) (fun v ν hv => ?_)
  obtain ⟨x, rfl, hr, hm⟩ := hv
  rw [hr, hm]
  show lq_Ev K 2260 i b L xs [.int r] μ1 μM
  refine lq_a2 dL_2260 ?_
  refine lq_ld (j := 1) (by omega) hL (show Int32.ofInt 1 = 1 by decide) rfl dL_2261 dL_2262 dL_2263 dL_2264 dL_2265 ?_
  refine lq_callM (d := 30) (C := mX12_game) (As := [.int (xs (i + 1))]) clL_245 dL_2266 rfl rfl (Nat.le_of_ble_eq_true rfl) (Nat.le_of_ble_eq_true rfl) (by decide) (dnX12_game (q := fun x ν => x = r ∧ ν = μ2) (d := 25) (xM_ok K) (xM_0 K) ⟨_, e2, rfl, rfl⟩) (fun v ν hv => ?_)
  obtain ⟨x, rfl, hr, hm⟩ := hv
  rw [hr, hm]
  show lq_Ev K 2269 i b L xs [.int r, .int r] μ1 μ2
  exact lq_eq (tgt := 2425) dL_2269 (by decide) rfl (kk _ _ h2)
theorem lc_54 {K : lx_K} {i b L : Nat} {xs : Nat → Int32} {μC μM : o_Mem} (h : Inv μC μM) (hi : i + 6 ≤ L) (hL : L ≤ 3072) (kk : ∀ μC' μM', Inv μC' μM' → lq_Ev K 2425 i b L xs [] μC' μM') : lq_Ev K 2274 i b L xs [] μC μM := by
  refine lq_a1 dL_2274 ?_
  refine lq_ld (j := 1) (by omega) hL (show Int32.ofInt 1 = 1 by decide) rfl dL_2275 dL_2276 dL_2277 dL_2278 dL_2279 ?_
  obtain ⟨r, μ1, μ2, e1, e2, h2⟩ := pu_gameFirst h (xs (i + 1))
  refine lq_callC (d := 30) (C := mX11_gameFirst) (As := [.int (xs (i + 1))]) clL_246 dL_2280 rfl rfl (Nat.le_of_ble_eq_true rfl) (Nat.le_of_ble_eq_true rfl) (by decide) (dnX11_gameFirst (q := fun x ν => x = r ∧ ν = μ1) (d := 17) (xC_ok K) (xC_0 K) ⟨_, e1, rfl, rfl⟩) (fun v ν hv => ?_)
  obtain ⟨x, rfl, hr, hm⟩ := hv
  rw [hr, hm]
  show lq_Ev K 2283 i b L xs [.int r] μ1 μM
  refine lq_a2 dL_2283 ?_
  refine lq_ld (j := 1) (by omega) hL (show Int32.ofInt 1 = 1 by decide) rfl dL_2284 dL_2285 dL_2286 dL_2287 dL_2288 ?_
  refine lq_callM (d := 30) (C := mX12_gameFirst) (As := [.int (xs (i + 1))]) clL_249 dL_2289 rfl rfl (Nat.le_of_ble_eq_true rfl) (Nat.le_of_ble_eq_true rfl) (by decide) (dnX12_gameFirst (q := fun x ν => x = r ∧ ν = μ2) (d := 25) (xM_ok K) (xM_0 K) ⟨_, e2, rfl, rfl⟩) (fun v ν hv => ?_)
  obtain ⟨x, rfl, hr, hm⟩ := hv
  rw [hr, hm]
  show lq_Ev K 2292 i b L xs [.int r, .int r] μ1 μ2
  exact lq_eq (tgt := 2425) dL_2292 (by decide) rfl (kk _ _ h2)
theorem lc_55 {K : lx_K} {i b L : Nat} {xs : Nat → Int32} {μC μM : o_Mem} (h : Inv μC μM) (hi : i + 6 ≤ L) (hL : L ≤ 3072) (kk : ∀ μC' μM', Inv μC' μM' → lq_Ev K 2425 i b L xs [] μC' μM') : lq_Ev K 2297 i b L xs [] μC μM := by
  refine lq_a1 dL_2297 ?_
  refine lq_ld (j := 1) (by omega) hL (show Int32.ofInt 1 = 1 by decide) rfl dL_2298 dL_2299 dL_2300 dL_2301 dL_2302 ?_
  obtain ⟨r, μ1, μ2, e1, e2, h2⟩ := pu_brother h (xs (i + 1))
  refine lq_callC (d := 30) (C := mX11_brother) (As := [.int (xs (i + 1))]) clL_250 dL_2303 rfl rfl (Nat.le_of_ble_eq_true rfl) (Nat.le_of_ble_eq_true rfl) (by decide) (dnX11_brother (q := fun x ν => x = r ∧ ν = μ1) (d := 28) (xC_ok K) (xC_0 K) ⟨_, e1, rfl, rfl⟩) (fun v ν hv => ?_)
  obtain ⟨x, rfl, hr, hm⟩ := hv
  rw [hr, hm]
  show lq_Ev K 2306 i b L xs [.int r] μ1 μM
  refine lq_a2 dL_2306 ?_
  refine lq_ld (j := 1) (by omega) hL (show Int32.ofInt 1 = 1 by decide) rfl dL_2307 dL_2308 dL_2309 dL_2310 dL_2311 ?_
  refine lq_callM (d := 30) (C := mX12_brother) (As := [.int (xs (i + 1))]) clL_253 dL_2312 rfl rfl (Nat.le_of_ble_eq_true rfl) (Nat.le_of_ble_eq_true rfl) (by decide) (dnX12_brother (q := fun x ν => x = r ∧ ν = μ2) (d := 27) (xM_ok K) (xM_0 K) ⟨_, e2, rfl, rfl⟩) (fun v ν hv => ?_)
  obtain ⟨x, rfl, hr, hm⟩ := hv
  rw [hr, hm]
  show lq_Ev K 2315 i b L xs [.int r, .int r] μ1 μ2
  exact lq_eq (tgt := 2425) dL_2315 (by decide) rfl (kk _ _ h2)
theorem lc_56 {K : lx_K} {i b L : Nat} {xs : Nat → Int32} {μC μM : o_Mem} (h : Inv μC μM) (hi : i + 6 ≤ L) (hL : L ≤ 3072) (kk : ∀ μC' μM', Inv μC' μM' → lq_Ev K 2425 i b L xs [] μC' μM') : lq_Ev K 2320 i b L xs [] μC μM := by
  refine lq_a1 dL_2320 ?_
  refine lq_ld (j := 1) (by omega) hL (show Int32.ofInt 1 = 1 by decide) rfl dL_2321 dL_2322 dL_2323 dL_2324 dL_2325 ?_
  obtain ⟨r, μ1, μ2, e1, e2, h2⟩ := pu_live h (xs (i + 1))
  refine lq_callC (d := 30) (C := mX11_live) (As := [.int (xs (i + 1))]) clL_254 dL_2326 rfl rfl (Nat.le_of_ble_eq_true rfl) (Nat.le_of_ble_eq_true rfl) (by decide) (dnX11_live (q := fun x ν => x = r ∧ ν = μ1) (d := 24) (xC_ok K) (xC_0 K) ⟨_, e1, rfl, rfl⟩) (fun v ν hv => ?_)
  obtain ⟨x, rfl, hr, hm⟩ := hv
  rw [hr, hm]
  show lq_Ev K 2329 i b L xs [.int r] μ1 μM
  refine lq_a2 dL_2329 ?_
  refine lq_ld (j := 1) (by omega) hL (show Int32.ofInt 1 = 1 by decide) rfl dL_2330 dL_2331 dL_2332 dL_2333 dL_2334 ?_
  refine lq_callM (d := 30) (C := mX12_live) (As := [.int (xs (i + 1))]) clL_257 dL_2335 rfl rfl (Nat.le_of_ble_eq_true rfl) (Nat.le_of_ble_eq_true rfl) (by decide) (dnX12_live (q := fun x ν => x = r ∧ ν = μ2) (d := 19) (xM_ok K) (xM_0 K) ⟨_, e2, rfl, rfl⟩) (fun v ν hv => ?_)
  obtain ⟨x, rfl, hr, hm⟩ := hv
  rw [hr, hm]
  show lq_Ev K 2338 i b L xs [.int r, .int r] μ1 μ2
  exact lq_eq (tgt := 2425) dL_2338 (by decide) rfl (kk _ _ h2)
theorem lc_57 {K : lx_K} {i b L : Nat} {xs : Nat → Int32} {μC μM : o_Mem} (h : Inv μC μM) (hi : i + 6 ≤ L) (hL : L ≤ 3072) (kk : ∀ μC' μM', Inv μC' μM' → lq_Ev K 2425 i b L xs [] μC' μM') : lq_Ev K 2343 i b L xs [] μC μM := by
  refine lq_a1 dL_2343 ?_
  refine lq_ld (j := 1) (by omega) hL (show Int32.ofInt 1 = 1 by decide) rfl dL_2344 dL_2345 dL_2346 dL_2347 dL_2348 ?_
  obtain ⟨r, μ1, μ2, e1, e2, h2⟩ := pu_lived h (xs (i + 1))
  refine lq_callC (d := 30) (C := mX11_lived) (As := [.int (xs (i + 1))]) clL_258 dL_2349 rfl rfl (Nat.le_of_ble_eq_true rfl) (Nat.le_of_ble_eq_true rfl) (by decide) (dnX11_lived (q := fun x ν => x = r ∧ ν = μ1) (d := 29) (xC_ok K) (xC_0 K) ⟨_, e1, rfl, rfl⟩) (fun v ν hv => ?_)
  obtain ⟨x, rfl, hr, hm⟩ := hv
  rw [hr, hm]
  show lq_Ev K 2352 i b L xs [.int r] μ1 μM
  refine lq_a2 dL_2352 ?_
  refine lq_ld (j := 1) (by omega) hL (show Int32.ofInt 1 = 1 by decide) rfl dL_2353 dL_2354 dL_2355 dL_2356 dL_2357 ?_
  refine lq_callM (d := 30) (C := mX12_lived) (As := [.int (xs (i + 1))]) clL_261 dL_2358 rfl rfl (Nat.le_of_ble_eq_true rfl) (Nat.le_of_ble_eq_true rfl) (by decide) (dnX12_lived (q := fun x ν => x = r ∧ ν = μ2) (d := 29) (xM_ok K) (xM_0 K) ⟨_, e2, rfl, rfl⟩) (fun v ν hv => ?_)
  obtain ⟨x, rfl, hr, hm⟩ := hv
  rw [hr, hm]
  show lq_Ev K 2361 i b L xs [.int r, .int r] μ1 μ2
  exact lq_eq (tgt := 2425) dL_2361 (by decide) rfl (kk _ _ h2)
theorem lc_58 {K : lx_K} {i b L : Nat} {xs : Nat → Int32} {μC μM : o_Mem} (h : Inv μC μM) (hi : i + 6 ≤ L) (hL : L ≤ 3072) (kk : ∀ μC' μM', Inv μC' μM' → lq_Ev K 2425 i b L xs [] μC' μM') : lq_Ev K 2366 i b L xs [] μC μM := by
  refine lq_a1 dL_2366 ?_
  refine lq_ld (j := 1) (by omega) hL (show Int32.ofInt 1 = 1 by decide) rfl dL_2367 dL_2368 dL_2369 dL_2370 dL_2371 ?_
  refine lq_ld (j := 2) (by omega) hL (show Int32.ofInt 2 = 2 by decide) rfl dL_2372 dL_2373 dL_2374 dL_2375 dL_2376 ?_
  obtain ⟨r, μ1, μ2, e1, e2, h2⟩ := pu_mean h (xs (i + 1)) (xs (i + 2))
  refine lq_callC (d := 30) (C := mX11_mean) (As := [.int (xs (i + 1)), .int (xs (i + 2))]) clL_262 dL_2377 rfl rfl (Nat.le_of_ble_eq_true rfl) (Nat.le_of_ble_eq_true rfl) (by decide) (dnX11_mean (q := fun x ν => x = r ∧ ν = μ1) (d := 24) (xC_ok K) (xC_0 K) ⟨_, e1, rfl, rfl⟩) (fun v ν hv => ?_)
  obtain ⟨x, rfl, -, hr, hm⟩ := hv
  rw [hr, hm]
  show lq_Ev K 2380 i b L xs [.int r] μ1 μM
  refine lq_a2 dL_2380 ?_
  refine lq_ld (j := 1) (by omega) hL (show Int32.ofInt 1 = 1 by decide) rfl dL_2381 dL_2382 dL_2383 dL_2384 dL_2385 ?_
  refine lq_ld (j := 2) (by omega) hL (show Int32.ofInt 2 = 2 by decide) rfl dL_2386 dL_2387 dL_2388 dL_2389 dL_2390 ?_
  refine lq_callM (d := 30) (C := mX12_mean) (As := [.int (xs (i + 1)), .int (xs (i + 2))]) clL_265 dL_2391 rfl rfl (Nat.le_of_ble_eq_true rfl) (Nat.le_of_ble_eq_true rfl) (by decide) (dnX12_mean (q := fun x ν => x = r ∧ ν = μ2) (d := 19) (xM_ok K) (xM_0 K) ⟨_, e2, rfl, rfl⟩) (fun v ν hv => ?_)
  obtain ⟨x, rfl, -, hr, hm⟩ := hv
  rw [hr, hm]
  show lq_Ev K 2394 i b L xs [.int r, .int r] μ1 μ2
  exact lq_eq (tgt := 2425) dL_2394 (by decide) rfl (kk _ _ h2)
theorem lc_59 {K : lx_K} {i b L : Nat} {xs : Nat → Int32} {μC μM : o_Mem} (h : Inv μC μM) (hi : i + 6 ≤ L) (hL : L ≤ 3072) (kk : ∀ μC' μM', Inv μC' μM' → lq_Ev K 2425 i b L xs [] μC' μM') : lq_Ev K 2399 i b L xs [] μC μM := by
  refine lq_a1 dL_2399 ?_
  obtain ⟨r, μ1, μ2, e1, e2, h2⟩ := pu_mark h 
  refine lq_callC (d := 30) (C := mX11_mark) (As := []) clL_266 dL_2400 rfl rfl (Nat.le_of_ble_eq_true rfl) (Nat.le_of_ble_eq_true rfl) (by decide) (dnX11_mark (q := fun x ν => x = r ∧ ν = μ1) (d := 27) (xC_ok K) (xC_0 K) ⟨_, e1, rfl, rfl⟩) (fun v ν hv => ?_)
  obtain ⟨x, rfl, hr, hm⟩ := hv
  rw [hr, hm]
  show lq_Ev K 2403 i b L xs [.int r] μ1 μM
  refine lq_a2 dL_2403 ?_
  refine lq_callM (d := 30) (C := mX12_mark) (As := []) clL_269 dL_2404 rfl rfl (Nat.le_of_ble_eq_true rfl) (Nat.le_of_ble_eq_true rfl) (by decide) (dnX12_mark (q := fun x ν => x = r ∧ ν = μ2) (d := 29) (xM_ok K) (xM_0 K) ⟨_, e2, rfl, rfl⟩) (fun v ν hv => ?_)
  obtain ⟨x, rfl, hr, hm⟩ := hv
  rw [hr, hm]
  show lq_Ev K 2407 i b L xs [.int r, .int r] μ1 μ2
  exact lq_eq (tgt := 2425) dL_2407 (by decide) rfl (kk _ _ h2)
theorem lc_60 {K : lx_K} {i b L : Nat} {xs : Nat → Int32} {μC μM : o_Mem} (h : Inv μC μM) (hi : i + 6 ≤ L) (hL : L ≤ 3072) (kk : ∀ μC' μM', Inv μC' μM' → lq_Ev K 2425 i b L xs [] μC' μM') : lq_Ev K 2412 i b L xs [] μC μM := by
  refine lq_a1 dL_2412 ?_
  obtain ⟨r, μ1, μ2, e1, e2, h2⟩ := pu_undo h 
  refine lq_callC (d := 30) (C := mX11_undo) (As := []) clL_270 dL_2413 rfl rfl (Nat.le_of_ble_eq_true rfl) (Nat.le_of_ble_eq_true rfl) (by decide) (dnX11_undo (q := fun x ν => x = r ∧ ν = μ1) (d := 27) (xC_ok K) (xC_0 K) ⟨_, e1, rfl, rfl⟩) (fun v ν hv => ?_)
  obtain ⟨x, rfl, hr, hm⟩ := hv
  rw [hr, hm]
  show lq_Ev K 2416 i b L xs [.int r] μ1 μM
  refine lq_a2 dL_2416 ?_
  refine lq_callM (d := 30) (C := mX12_undo) (As := []) clL_273 dL_2417 rfl rfl (Nat.le_of_ble_eq_true rfl) (Nat.le_of_ble_eq_true rfl) (by decide) (dnX12_undo (q := fun x ν => x = r ∧ ν = μ2) (d := 29) (xM_ok K) (xM_0 K) ⟨_, e2, rfl, rfl⟩) (fun v ν hv => ?_)
  obtain ⟨x, rfl, hr, hm⟩ := hv
  rw [hr, hm]
  show lq_Ev K 2420 i b L xs [.int r, .int r] μ1 μ2
  exact lq_eq (tgt := 2425) dL_2420 (by decide) rfl (kk _ _ h2)
