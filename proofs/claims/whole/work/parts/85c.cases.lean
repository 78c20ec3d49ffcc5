/-! the law's cases 32 to 47 (printed by g85.py) -/
theorem lc_slack {G : GT} {X : CT} {cells slots b L : Nat} {xs : Nat → Int32} {i : Int} {V : VV} {S : Su} {P : Pl} (A : LA G X b L xs) (hi : 0 ≤ i) (hi2 : i + 6 ≤ (L : Int)) (h : RV V S P) (hc : cells + 10 ≤ 601024) (hs : slots + 60 ≤ 7293034) (K : Nx G X b i cells slots) : At G X cells slots 1955 (LV G b i) [] V := by
  obtain ⟨e, V1, bb, V2, h1, h2, h3, h4, S', P', h5⟩ := op_slack (sv_rg (xs := xs) (k := i + 1)) V S P h
  have hN : gN G = 155 := A.2.2.2.2.2.1
  have C := A.1
  refine r_aload_n C dL_law_1955 rfl ?_
  refine ld_arg A dL_law_1956 dL_law_1957 dL_law_1959 dL_law_1960 dL_law_1961 rfl rfl (by omega) (by omega) ?_
  refine r_aload_n C dL_law_1962 rfl ?_
  refine q_callW (n := 3) (As := [.ref (gB G + 0), vI (sv xs (i + 1)), .ref (gB G + 154)]) (rest := []) C A.2.2.1 A.2.2.2.1 dL_law_1963 lL_276 whL_slack wiL (by decide +kernel) (by decide +kernel) (ew_slack C.lt hN A.2.2.2.2.2.2.1 h1) rfl rfl (Nat.le_of_ble_eq_true rfl) (Nat.le_of_ble_eq_true rfl) (Nat.le_of_ble_eq_true rfl) (show cells + 1 ≤ 601024 by omega) (show slots + 6 ≤ 7293034 by omega) ?_
  obtain ⟨z, hz, hz2⟩ := oGI_ex (G := G) (e := e)
  rw [hz]
  refine AtH.gO (z := z) ?_
  have A2 := A.gO (z := z)
  have C2 := A2.1
  show At (gO G z) X (cells + 1) (slots + 6) 1966 (LV (gO G z) b i) [vI (cod [eI] e)] V1
  refine x_istore A2.2.2.2.2.1 C2 dL_law_1966 rfl ?_
  refine r_aload_n C2 dL_law_1968 rfl ?_
  refine ld_arg A2 dL_law_1969 dL_law_1970 dL_law_1972 dL_law_1973 dL_law_1974 rfl rfl (by omega) (by omega) ?_
  refine q_callV (kk0 := 148) (As := [vI (sv xs (i + 1))]) (rest := []) C2 A2.2.2.2.1 dL_law_1975 lL_278 w6_slack (rc_model (show 154 ≤ gN G by omega)) (ev6_slack C2.lt (show 154 ≤ gN G by omega) h2) rfl rfl (Nat.le_of_ble_eq_true rfl) (Nat.le_of_ble_eq_true rfl) (Nat.le_of_ble_eq_true rfl) (show cells + 1 ≤ 601024 by omega) (show slots + 6 ≤ 7293034 by omega) ?_
  show At (gO G z) X (cells + 1) (slots + 6) 1978 ((5, vI (cod [eI] e)) :: LV (gO G z) b i) [vI bb] V2
  refine x_istore A2.2.2.2.2.1 C2 dL_law_1978 rfl ?_
  refine tl_I A2 h3 cod_rg (fun c => ?_) (by omega) (by omega) dL_law_1980 dL_law_1981 dL_law_1984 dL_law_1986 dL_law_1991 dL_law_1993 dL_law_1996 dL_law_1997 dL_law_1998 dL_law_1999 dL_law_2001 dL_law_2002 dL_law_2003 dL_law_2008 rfl (K.gO V2 S' P' _ _ h5 (by omega) (by omega))
  obtain ⟨r, hr⟩ := cod_e c
  have e1 := hz2 r hr
  have e2 := h4 r hr
  rw [gO_6 (by rw [e1]; exact (rg_nrm r).1), e1, e2]
theorem lc_whyNotMovable {G : GT} {X : CT} {cells slots b L : Nat} {xs : Nat → Int32} {i : Int} {V : VV} {S : Su} {P : Pl} (A : LA G X b L xs) (hi : 0 ≤ i) (hi2 : i + 6 ≤ (L : Int)) (h : RV V S P) (hc : cells + 10 ≤ 601024) (hs : slots + 60 ≤ 7293034) (K : Nx G X b i cells slots) : At G X cells slots 2011 (LV G b i) [] V := by
  obtain ⟨e, V1, bb, V2, h1, h2, h3, h4, S', P', h5⟩ := op_whyNotMovable (sv_rg (xs := xs) (k := i + 1)) (sv_rg (xs := xs) (k := i + 2)) V S P h
  have hN : gN G = 155 := A.2.2.2.2.2.1
  have C := A.1
  refine r_aload_n C dL_law_2011 rfl ?_
  refine ld_arg A dL_law_2012 dL_law_2013 dL_law_2015 dL_law_2016 dL_law_2017 rfl rfl (by omega) (by omega) ?_
  refine ld_arg A dL_law_2018 dL_law_2019 dL_law_2021 dL_law_2022 dL_law_2023 rfl rfl (by omega) (by omega) ?_
  refine r_aload_n C dL_law_2024 rfl ?_
  refine q_callW (n := 4) (As := [.ref (gB G + 0), vI (sv xs (i + 1)), vI (sv xs (i + 2)), .ref (gB G + 154)]) (rest := []) C A.2.2.1 A.2.2.2.1 dL_law_2025 lL_279 whL_whyNotMovable wiL (by decide +kernel) (by decide +kernel) (ew_whyNotMovable C.lt hN A.2.2.2.2.2.2.1 h1) rfl rfl (Nat.le_of_ble_eq_true rfl) (Nat.le_of_ble_eq_true rfl) (Nat.le_of_ble_eq_true rfl) (show cells + 2 ≤ 601024 by omega) (show slots + 12 ≤ 7293034 by omega) ?_
  obtain ⟨z, hz, hz2⟩ := oGI_ex (G := G) (e := e)
  rw [hz]
  refine AtH.gO (z := z) ?_
  have A2 := A.gO (z := z)
  have C2 := A2.1
  show At (gO G z) X (cells + 2) (slots + 12) 2028 (LV (gO G z) b i) [vI (cod [eI, eA] e)] V1
  refine x_istore A2.2.2.2.2.1 C2 dL_law_2028 rfl ?_
  refine r_aload_n C2 dL_law_2030 rfl ?_
  refine ld_arg A2 dL_law_2031 dL_law_2032 dL_law_2034 dL_law_2035 dL_law_2036 rfl rfl (by omega) (by omega) ?_
  refine ld_arg A2 dL_law_2037 dL_law_2038 dL_law_2040 dL_law_2041 dL_law_2042 rfl rfl (by omega) (by omega) ?_
  refine q_callV (kk0 := 148) (As := [vI (sv xs (i + 1)), vI (sv xs (i + 2))]) (rest := []) C2 A2.2.2.2.1 dL_law_2043 lL_281 w6_whyNotMovable (rc_model (show 154 ≤ gN G by omega)) (ev6_whyNotMovable C2.lt (show 154 ≤ gN G by omega) h2) rfl rfl (Nat.le_of_ble_eq_true rfl) (Nat.le_of_ble_eq_true rfl) (Nat.le_of_ble_eq_true rfl) (show cells + 2 ≤ 601024 by omega) (show slots + 12 ≤ 7293034 by omega) ?_
  show At (gO G z) X (cells + 2) (slots + 12) 2046 ((5, vI (cod [eI, eA] e)) :: LV (gO G z) b i) [vI bb] V2
  refine x_istore A2.2.2.2.2.1 C2 dL_law_2046 rfl ?_
  refine tl_I A2 h3 cod_rg (fun c => ?_) (by omega) (by omega) dL_law_2048 dL_law_2049 dL_law_2052 dL_law_2054 dL_law_2059 dL_law_2061 dL_law_2064 dL_law_2065 dL_law_2066 dL_law_2067 dL_law_2069 dL_law_2070 dL_law_2071 dL_law_2076 rfl (K.gO V2 S' P' _ _ h5 (by omega) (by omega))
  obtain ⟨r, hr⟩ := cod_e c
  have e1 := hz2 r hr
  have e2 := h4 r hr
  rw [gO_6 (by rw [e1]; exact (rg_nrm r).1), e1, e2]
theorem lc_requestCount {G : GT} {X : CT} {cells slots b L : Nat} {xs : Nat → Int32} {i : Int} {V : VV} {S : Su} {P : Pl} (A : LA G X b L xs) (hi : 0 ≤ i) (hi2 : i + 6 ≤ (L : Int)) (h : RV V S P) (hc : cells + 10 ≤ 601024) (hs : slots + 60 ≤ 7293034) (K : Nx G X b i cells slots) : At G X cells slots 2079 (LV G b i) [] V := by
  obtain ⟨r, V2, h1, h2, S', P', h5⟩ := op_requestCount V S P h
  have hN : gN G = 155 := A.2.2.2.2.2.1
  have C := A.1
  refine r_aload_n C dL_law_2079 rfl ?_
  refine q_callV (kk0 := 0) (As := []) (rest := []) C A.2.2.2.1 dL_law_2080 lL_282 w5_requestCount (rc_main (by omega)) (ev5_requestCount C.lt (by omega) h1) rfl rfl (Nat.le_of_ble_eq_true rfl) (Nat.le_of_ble_eq_true rfl) (Nat.le_of_ble_eq_true rfl) (show cells ≤ 601024 by omega) (show slots ≤ 7293034 by omega) ?_
  show At G X cells slots 2083 (LV G b i) [vI r] V
  refine r_aload_n C dL_law_2083 rfl ?_
  refine q_callV (kk0 := 148) (As := []) (rest := [vI r]) C A.2.2.2.1 dL_law_2084 lL_285 w6_requestCount (rc_model (by omega)) (ev6_requestCount C.lt (by omega) h2) rfl rfl (Nat.le_of_ble_eq_true rfl) (Nat.le_of_ble_eq_true rfl) (Nat.le_of_ble_eq_true rfl) (show cells ≤ 601024 by omega) (show slots ≤ 7293034 by omega) ?_
  show At G X cells slots 2087 (LV G b i) [vI r, vI r] V2
  refine x_icmpeq (tgt := 3481) C dL_law_2087 rfl (fun _ => ?_) (fun c => absurd rfl c)
  exact K.self V2 S' P' _ _ h5 (by omega) (by omega)
theorem lc_requestedShip {G : GT} {X : CT} {cells slots b L : Nat} {xs : Nat → Int32} {i : Int} {V : VV} {S : Su} {P : Pl} (A : LA G X b L xs) (hi : 0 ≤ i) (hi2 : i + 6 ≤ (L : Int)) (h : RV V S P) (hc : cells + 10 ≤ 601024) (hs : slots + 60 ≤ 7293034) (K : Nx G X b i cells slots) : At G X cells slots 2092 (LV G b i) [] V := by
  obtain ⟨e, V1, bb, V2, h1, h2, h3, h4, S', P', h5⟩ := op_requestedShip (sv_rg (xs := xs) (k := i + 1)) V S P h
  have hN : gN G = 155 := A.2.2.2.2.2.1
  have C := A.1
  refine r_aload_n C dL_law_2092 rfl ?_
  refine ld_arg A dL_law_2093 dL_law_2094 dL_law_2096 dL_law_2097 dL_law_2098 rfl rfl (by omega) (by omega) ?_
  refine r_aload_n C dL_law_2099 rfl ?_
  refine q_callW (n := 3) (As := [.ref (gB G + 0), vI (sv xs (i + 1)), .ref (gB G + 154)]) (rest := []) C A.2.2.1 A.2.2.2.1 dL_law_2100 lL_286 whL_requestedShip wiL (by decide +kernel) (by decide +kernel) (ew_requestedShip C.lt hN A.2.2.2.2.2.2.1 h1) rfl rfl (Nat.le_of_ble_eq_true rfl) (Nat.le_of_ble_eq_true rfl) (Nat.le_of_ble_eq_true rfl) (show cells + 1 ≤ 601024 by omega) (show slots + 6 ≤ 7293034 by omega) ?_
  obtain ⟨z, hz, hz2⟩ := oGI_ex (G := G) (e := e)
  rw [hz]
  refine AtH.gO (z := z) ?_
  have A2 := A.gO (z := z)
  have C2 := A2.1
  show At (gO G z) X (cells + 1) (slots + 6) 2103 (LV (gO G z) b i) [vI (cod [eI] e)] V1
  refine x_istore A2.2.2.2.2.1 C2 dL_law_2103 rfl ?_
  refine r_aload_n C2 dL_law_2105 rfl ?_
  refine ld_arg A2 dL_law_2106 dL_law_2107 dL_law_2109 dL_law_2110 dL_law_2111 rfl rfl (by omega) (by omega) ?_
  refine q_callV (kk0 := 148) (As := [vI (sv xs (i + 1))]) (rest := []) C2 A2.2.2.2.1 dL_law_2112 lL_288 w6_requestedShip (rc_model (show 154 ≤ gN G by omega)) (ev6_requestedShip C2.lt (show 154 ≤ gN G by omega) h2) rfl rfl (Nat.le_of_ble_eq_true rfl) (Nat.le_of_ble_eq_true rfl) (Nat.le_of_ble_eq_true rfl) (show cells + 1 ≤ 601024 by omega) (show slots + 6 ≤ 7293034 by omega) ?_
  show At (gO G z) X (cells + 1) (slots + 6) 2115 ((5, vI (cod [eI] e)) :: LV (gO G z) b i) [vI bb] V2
  refine x_istore A2.2.2.2.2.1 C2 dL_law_2115 rfl ?_
  refine tl_I A2 h3 cod_rg (fun c => ?_) (by omega) (by omega) dL_law_2117 dL_law_2118 dL_law_2121 dL_law_2123 dL_law_2128 dL_law_2130 dL_law_2133 dL_law_2134 dL_law_2135 dL_law_2136 dL_law_2138 dL_law_2139 dL_law_2140 dL_law_2145 rfl (K.gO V2 S' P' _ _ h5 (by omega) (by omega))
  obtain ⟨r, hr⟩ := cod_e c
  have e1 := hz2 r hr
  have e2 := h4 r hr
  rw [gO_6 (by rw [e1]; exact (rg_nrm r).1), e1, e2]
theorem lc_isRequestInbound {G : GT} {X : CT} {cells slots b L : Nat} {xs : Nat → Int32} {i : Int} {V : VV} {S : Su} {P : Pl} (A : LA G X b L xs) (hi : 0 ≤ i) (hi2 : i + 6 ≤ (L : Int)) (h : RV V S P) (hc : cells + 10 ≤ 601024) (hs : slots + 60 ≤ 7293034) (K : Nx G X b i cells slots) : At G X cells slots 2148 (LV G b i) [] V := by
  obtain ⟨e, V1, bb, V2, h1, h2, h3, h4, S', P', h5⟩ := op_isRequestInbound (sv_rg (xs := xs) (k := i + 1)) V S P h
  have hN : gN G = 155 := A.2.2.2.2.2.1
  have C := A.1
  refine r_aload_n C dL_law_2148 rfl ?_
  refine ld_arg A dL_law_2149 dL_law_2150 dL_law_2152 dL_law_2153 dL_law_2154 rfl rfl (by omega) (by omega) ?_
  refine r_aload_n C dL_law_2155 rfl ?_
  refine q_callW (n := 3) (As := [.ref (gB G + 0), vI (sv xs (i + 1)), .ref (gB G + 154)]) (rest := []) C A.2.2.1 A.2.2.2.1 dL_law_2156 lL_289 whL_isRequestInbound wiL (by decide +kernel) (by decide +kernel) (ew_isRequestInbound C.lt hN A.2.2.2.2.2.2.1 h1) rfl rfl (Nat.le_of_ble_eq_true rfl) (Nat.le_of_ble_eq_true rfl) (Nat.le_of_ble_eq_true rfl) (show cells + 1 ≤ 601024 by omega) (show slots + 6 ≤ 7293034 by omega) ?_
  obtain ⟨z, hz, hz2⟩ := oGZ_ex (G := G) (e := e)
  rw [hz]
  refine AtH.gO (z := z) ?_
  have A2 := A.gO (z := z)
  have C2 := A2.1
  show At (gO G z) X (cells + 1) (slots + 6) 2159 (LV (gO G z) b i) [vI (cod [eI] e)] V1
  refine x_istore A2.2.2.2.2.1 C2 dL_law_2159 rfl ?_
  refine r_aload_n C2 dL_law_2161 rfl ?_
  refine ld_arg A2 dL_law_2162 dL_law_2163 dL_law_2165 dL_law_2166 dL_law_2167 rfl rfl (by omega) (by omega) ?_
  refine q_callV (kk0 := 148) (As := [vI (sv xs (i + 1))]) (rest := []) C2 A2.2.2.2.1 dL_law_2168 lL_291 w6_isRequestInbound (rc_model (show 154 ≤ gN G by omega)) (ev6_isRequestInbound C2.lt (show 154 ≤ gN G by omega) h2) rfl rfl (Nat.le_of_ble_eq_true rfl) (Nat.le_of_ble_eq_true rfl) (Nat.le_of_ble_eq_true rfl) (show cells + 1 ≤ 601024 by omega) (show slots + 6 ≤ 7293034 by omega) ?_
  show At (gO G z) X (cells + 1) (slots + 6) 2171 ((5, vI (cod [eI] e)) :: LV (gO G z) b i) [vI bb] V2
  refine x_istore A2.2.2.2.2.1 C2 dL_law_2171 rfl ?_
  refine tl_Z A2 h3 cod_rg (fun c => ?_) (by omega) (by omega) dL_law_2173 dL_law_2174 dL_law_2177 dL_law_2179 dL_law_2184 dL_law_2186 dL_law_2189 dL_law_2190 dL_law_2191 dL_law_2192 dL_law_2194 dL_law_2197 dL_law_2198 dL_law_2201 dL_law_2202 dL_law_2203 dL_law_2208 rfl (K.gO V2 S' P' _ _ h5 (by omega) (by omega))
  obtain ⟨r, hr⟩ := cod_e c
  have e1 := hz2 r hr
  have e2 := h4 r hr
  rw [gO_6 (by rw [e1]; split <;> omega), e1, e2]
theorem lc_earliestRequested {G : GT} {X : CT} {cells slots b L : Nat} {xs : Nat → Int32} {i : Int} {V : VV} {S : Su} {P : Pl} (A : LA G X b L xs) (hi : 0 ≤ i) (hi2 : i + 6 ≤ (L : Int)) (h : RV V S P) (hc : cells + 10 ≤ 601024) (hs : slots + 60 ≤ 7293034) (K : Nx G X b i cells slots) : At G X cells slots 2211 (LV G b i) [] V := by
  obtain ⟨e, V1, bb, V2, h1, h2, h3, h4, S', P', h5⟩ := op_earliestRequested (sv_rg (xs := xs) (k := i + 1)) V S P h
  have hN : gN G = 155 := A.2.2.2.2.2.1
  have C := A.1
  refine r_aload_n C dL_law_2211 rfl ?_
  refine ld_arg A dL_law_2212 dL_law_2213 dL_law_2215 dL_law_2216 dL_law_2217 rfl rfl (by omega) (by omega) ?_
  refine r_aload_n C dL_law_2218 rfl ?_
  refine q_callW (n := 3) (As := [.ref (gB G + 0), vI (sv xs (i + 1)), .ref (gB G + 154)]) (rest := []) C A.2.2.1 A.2.2.2.1 dL_law_2219 lL_292 whL_earliestRequested wiL (by decide +kernel) (by decide +kernel) (ew_earliestRequested C.lt hN A.2.2.2.2.2.2.1 h1) rfl rfl (Nat.le_of_ble_eq_true rfl) (Nat.le_of_ble_eq_true rfl) (Nat.le_of_ble_eq_true rfl) (show cells + 1 ≤ 601024 by omega) (show slots + 6 ≤ 7293034 by omega) ?_
  obtain ⟨z, hz, hz2⟩ := oGI_ex (G := G) (e := e)
  rw [hz]
  refine AtH.gO (z := z) ?_
  have A2 := A.gO (z := z)
  have C2 := A2.1
  show At (gO G z) X (cells + 1) (slots + 6) 2222 (LV (gO G z) b i) [vI (cod [eI] e)] V1
  refine x_istore A2.2.2.2.2.1 C2 dL_law_2222 rfl ?_
  refine r_aload_n C2 dL_law_2224 rfl ?_
  refine ld_arg A2 dL_law_2225 dL_law_2226 dL_law_2228 dL_law_2229 dL_law_2230 rfl rfl (by omega) (by omega) ?_
  refine q_callV (kk0 := 148) (As := [vI (sv xs (i + 1))]) (rest := []) C2 A2.2.2.2.1 dL_law_2231 lL_294 w6_earliestRequested (rc_model (show 154 ≤ gN G by omega)) (ev6_earliestRequested C2.lt (show 154 ≤ gN G by omega) h2) rfl rfl (Nat.le_of_ble_eq_true rfl) (Nat.le_of_ble_eq_true rfl) (Nat.le_of_ble_eq_true rfl) (show cells + 1 ≤ 601024 by omega) (show slots + 6 ≤ 7293034 by omega) ?_
  show At (gO G z) X (cells + 1) (slots + 6) 2234 ((5, vI (cod [eI] e)) :: LV (gO G z) b i) [vI bb] V2
  refine x_istore A2.2.2.2.2.1 C2 dL_law_2234 rfl ?_
  refine tl_I A2 h3 cod_rg (fun c => ?_) (by omega) (by omega) dL_law_2236 dL_law_2237 dL_law_2240 dL_law_2242 dL_law_2247 dL_law_2249 dL_law_2252 dL_law_2253 dL_law_2254 dL_law_2255 dL_law_2257 dL_law_2258 dL_law_2259 dL_law_2264 rfl (K.gO V2 S' P' _ _ h5 (by omega) (by omega))
  obtain ⟨r, hr⟩ := cod_e c
  have e1 := hz2 r hr
  have e2 := h4 r hr
  rw [gO_6 (by rw [e1]; exact (rg_nrm r).1), e1, e2]
theorem lc_latestRequested {G : GT} {X : CT} {cells slots b L : Nat} {xs : Nat → Int32} {i : Int} {V : VV} {S : Su} {P : Pl} (A : LA G X b L xs) (hi : 0 ≤ i) (hi2 : i + 6 ≤ (L : Int)) (h : RV V S P) (hc : cells + 10 ≤ 601024) (hs : slots + 60 ≤ 7293034) (K : Nx G X b i cells slots) : At G X cells slots 2267 (LV G b i) [] V := by
  obtain ⟨e, V1, bb, V2, h1, h2, h3, h4, S', P', h5⟩ := op_latestRequested (sv_rg (xs := xs) (k := i + 1)) V S P h
  have hN : gN G = 155 := A.2.2.2.2.2.1
  have C := A.1
  refine r_aload_n C dL_law_2267 rfl ?_
  refine ld_arg A dL_law_2268 dL_law_2269 dL_law_2271 dL_law_2272 dL_law_2273 rfl rfl (by omega) (by omega) ?_
  refine r_aload_n C dL_law_2274 rfl ?_
  refine q_callW (n := 3) (As := [.ref (gB G + 0), vI (sv xs (i + 1)), .ref (gB G + 154)]) (rest := []) C A.2.2.1 A.2.2.2.1 dL_law_2275 lL_295 whL_latestRequested wiL (by decide +kernel) (by decide +kernel) (ew_latestRequested C.lt hN A.2.2.2.2.2.2.1 h1) rfl rfl (Nat.le_of_ble_eq_true rfl) (Nat.le_of_ble_eq_true rfl) (Nat.le_of_ble_eq_true rfl) (show cells + 1 ≤ 601024 by omega) (show slots + 6 ≤ 7293034 by omega) ?_
  obtain ⟨z, hz, hz2⟩ := oGI_ex (G := G) (e := e)
  rw [hz]
  refine AtH.gO (z := z) ?_
  have A2 := A.gO (z := z)
  have C2 := A2.1
  show At (gO G z) X (cells + 1) (slots + 6) 2278 (LV (gO G z) b i) [vI (cod [eI] e)] V1
  refine x_istore A2.2.2.2.2.1 C2 dL_law_2278 rfl ?_
  refine r_aload_n C2 dL_law_2280 rfl ?_
  refine ld_arg A2 dL_law_2281 dL_law_2282 dL_law_2284 dL_law_2285 dL_law_2286 rfl rfl (by omega) (by omega) ?_
  refine q_callV (kk0 := 148) (As := [vI (sv xs (i + 1))]) (rest := []) C2 A2.2.2.2.1 dL_law_2287 lL_297 w6_latestRequested (rc_model (show 154 ≤ gN G by omega)) (ev6_latestRequested C2.lt (show 154 ≤ gN G by omega) h2) rfl rfl (Nat.le_of_ble_eq_true rfl) (Nat.le_of_ble_eq_true rfl) (Nat.le_of_ble_eq_true rfl) (show cells + 1 ≤ 601024 by omega) (show slots + 6 ≤ 7293034 by omega) ?_
  show At (gO G z) X (cells + 1) (slots + 6) 2290 ((5, vI (cod [eI] e)) :: LV (gO G z) b i) [vI bb] V2
  refine x_istore A2.2.2.2.2.1 C2 dL_law_2290 rfl ?_
  refine tl_I A2 h3 cod_rg (fun c => ?_) (by omega) (by omega) dL_law_2292 dL_law_2293 dL_law_2296 dL_law_2298 dL_law_2303 dL_law_2305 dL_law_2308 dL_law_2309 dL_law_2310 dL_law_2311 dL_law_2313 dL_law_2314 dL_law_2315 dL_law_2320 rfl (K.gO V2 S' P' _ _ h5 (by omega) (by omega))
  obtain ⟨r, hr⟩ := cod_e c
  have e1 := hz2 r hr
  have e2 := h4 r hr
  rw [gO_6 (by rw [e1]; exact (rg_nrm r).1), e1, e2]
theorem lc_whyNotFeasible {G : GT} {X : CT} {cells slots b L : Nat} {xs : Nat → Int32} {i : Int} {V : VV} {S : Su} {P : Pl} (A : LA G X b L xs) (hi : 0 ≤ i) (hi2 : i + 6 ≤ (L : Int)) (h : RV V S P) (hc : cells + 10 ≤ 601024) (hs : slots + 60 ≤ 7293034) (K : Nx G X b i cells slots) : At G X cells slots 2323 (LV G b i) [] V := by
  obtain ⟨e, V1, bb, V2, h1, h2, h3, h4, S', P', h5⟩ := op_whyNotFeasible (sv_rg (xs := xs) (k := i + 1)) V S P h
  have hN : gN G = 155 := A.2.2.2.2.2.1
  have C := A.1
  refine r_aload_n C dL_law_2323 rfl ?_
  refine ld_arg A dL_law_2324 dL_law_2325 dL_law_2327 dL_law_2328 dL_law_2329 rfl rfl (by omega) (by omega) ?_
  refine r_aload_n C dL_law_2330 rfl ?_
  refine q_callW (n := 3) (As := [.ref (gB G + 0), vI (sv xs (i + 1)), .ref (gB G + 154)]) (rest := []) C A.2.2.1 A.2.2.2.1 dL_law_2331 lL_298 whL_whyNotFeasible wiL (by decide +kernel) (by decide +kernel) (ew_whyNotFeasible C.lt hN A.2.2.2.2.2.2.1 h1) rfl rfl (Nat.le_of_ble_eq_true rfl) (Nat.le_of_ble_eq_true rfl) (Nat.le_of_ble_eq_true rfl) (show cells + 1 ≤ 601024 by omega) (show slots + 6 ≤ 7293034 by omega) ?_
  obtain ⟨z, hz, hz2⟩ := oGI_ex (G := G) (e := e)
  rw [hz]
  refine AtH.gO (z := z) ?_
  have A2 := A.gO (z := z)
  have C2 := A2.1
  show At (gO G z) X (cells + 1) (slots + 6) 2334 (LV (gO G z) b i) [vI (cod [eI] e)] V1
  refine x_istore A2.2.2.2.2.1 C2 dL_law_2334 rfl ?_
  refine r_aload_n C2 dL_law_2336 rfl ?_
  refine ld_arg A2 dL_law_2337 dL_law_2338 dL_law_2340 dL_law_2341 dL_law_2342 rfl rfl (by omega) (by omega) ?_
  refine q_callV (kk0 := 148) (As := [vI (sv xs (i + 1))]) (rest := []) C2 A2.2.2.2.1 dL_law_2343 lL_300 w6_whyNotFeasible (rc_model (show 154 ≤ gN G by omega)) (ev6_whyNotFeasible C2.lt (show 154 ≤ gN G by omega) h2) rfl rfl (Nat.le_of_ble_eq_true rfl) (Nat.le_of_ble_eq_true rfl) (Nat.le_of_ble_eq_true rfl) (show cells + 1 ≤ 601024 by omega) (show slots + 6 ≤ 7293034 by omega) ?_
  show At (gO G z) X (cells + 1) (slots + 6) 2346 ((5, vI (cod [eI] e)) :: LV (gO G z) b i) [vI bb] V2
  refine x_istore A2.2.2.2.2.1 C2 dL_law_2346 rfl ?_
  refine tl_I A2 h3 cod_rg (fun c => ?_) (by omega) (by omega) dL_law_2348 dL_law_2349 dL_law_2352 dL_law_2354 dL_law_2359 dL_law_2361 dL_law_2364 dL_law_2365 dL_law_2366 dL_law_2367 dL_law_2369 dL_law_2370 dL_law_2371 dL_law_2376 rfl (K.gO V2 S' P' _ _ h5 (by omega) (by omega))
  obtain ⟨r, hr⟩ := cod_e c
  have e1 := hz2 r hr
  have e2 := h4 r hr
  rw [gO_6 (by rw [e1]; exact (rg_nrm r).1), e1, e2]
theorem lc_bestValue {G : GT} {X : CT} {cells slots b L : Nat} {xs : Nat → Int32} {i : Int} {V : VV} {S : Su} {P : Pl} (A : LA G X b L xs) (hi : 0 ≤ i) (hi2 : i + 6 ≤ (L : Int)) (h : RV V S P) (hc : cells + 10 ≤ 601024) (hs : slots + 60 ≤ 7293034) (K : Nx G X b i cells slots) : At G X cells slots 2379 (LV G b i) [] V := by
  obtain ⟨r, V1, V2, h1, h2, S', P', h5⟩ := op_bestValue V S P h
  have hN : gN G = 155 := A.2.2.2.2.2.1
  have C := A.1
  refine r_aload_n C dL_law_2379 rfl ?_
  refine q_callV (kk0 := 0) (As := []) (rest := []) C A.2.2.2.1 dL_law_2380 lL_301 w5_bestValue (rc_main (by omega)) (ev5_bestValue C.lt (by omega) h1) rfl rfl (Nat.le_of_ble_eq_true rfl) (Nat.le_of_ble_eq_true rfl) (Nat.le_of_ble_eq_true rfl) (show cells ≤ 601024 by omega) (show slots ≤ 7293034 by omega) ?_
  show At G X cells slots 2383 (LV G b i) [vI r] V1
  refine r_aload_n C dL_law_2383 rfl ?_
  refine q_callV (kk0 := 148) (As := []) (rest := [vI r]) C A.2.2.2.1 dL_law_2384 lL_304 w6_bestValue (rc_model (by omega)) (ev6_bestValue C.lt (by omega) h2) rfl rfl (Nat.le_of_ble_eq_true rfl) (Nat.le_of_ble_eq_true rfl) (Nat.le_of_ble_eq_true rfl) (show cells ≤ 601024 by omega) (show slots ≤ 7293034 by omega) ?_
  show At G X cells slots 2387 (LV G b i) [vI r, vI r] V2
  refine x_icmpeq (tgt := 3481) C dL_law_2387 rfl (fun _ => ?_) (fun c => absurd rfl c)
  exact K.self V2 S' P' _ _ h5 (by omega) (by omega)
theorem lc_isSelected {G : GT} {X : CT} {cells slots b L : Nat} {xs : Nat → Int32} {i : Int} {V : VV} {S : Su} {P : Pl} (A : LA G X b L xs) (hi : 0 ≤ i) (hi2 : i + 6 ≤ (L : Int)) (h : RV V S P) (hc : cells + 10 ≤ 601024) (hs : slots + 60 ≤ 7293034) (K : Nx G X b i cells slots) : At G X cells slots 2392 (LV G b i) [] V := by
  obtain ⟨e, V1, bb, V2, h1, h2, h3, h4, S', P', h5⟩ := op_isSelected (sv_rg (xs := xs) (k := i + 1)) V S P h
  have hN : gN G = 155 := A.2.2.2.2.2.1
  have C := A.1
  refine r_aload_n C dL_law_2392 rfl ?_
  refine ld_arg A dL_law_2393 dL_law_2394 dL_law_2396 dL_law_2397 dL_law_2398 rfl rfl (by omega) (by omega) ?_
  refine r_aload_n C dL_law_2399 rfl ?_
  refine q_callW (n := 3) (As := [.ref (gB G + 0), vI (sv xs (i + 1)), .ref (gB G + 154)]) (rest := []) C A.2.2.1 A.2.2.2.1 dL_law_2400 lL_305 whL_isSelected wiL (by decide +kernel) (by decide +kernel) (ew_isSelected C.lt hN A.2.2.2.2.2.2.1 h1) rfl rfl (Nat.le_of_ble_eq_true rfl) (Nat.le_of_ble_eq_true rfl) (Nat.le_of_ble_eq_true rfl) (show cells + 1 ≤ 601024 by omega) (show slots + 6 ≤ 7293034 by omega) ?_
  obtain ⟨z, hz, hz2⟩ := oGZ_ex (G := G) (e := e)
  rw [hz]
  refine AtH.gO (z := z) ?_
  have A2 := A.gO (z := z)
  have C2 := A2.1
  show At (gO G z) X (cells + 1) (slots + 6) 2403 (LV (gO G z) b i) [vI (cod [eI] e)] V1
  refine x_istore A2.2.2.2.2.1 C2 dL_law_2403 rfl ?_
  refine r_aload_n C2 dL_law_2405 rfl ?_
  refine ld_arg A2 dL_law_2406 dL_law_2407 dL_law_2409 dL_law_2410 dL_law_2411 rfl rfl (by omega) (by omega) ?_
  refine q_callV (kk0 := 148) (As := [vI (sv xs (i + 1))]) (rest := []) C2 A2.2.2.2.1 dL_law_2412 lL_307 w6_isSelected (rc_model (show 154 ≤ gN G by omega)) (ev6_isSelected C2.lt (show 154 ≤ gN G by omega) h2) rfl rfl (Nat.le_of_ble_eq_true rfl) (Nat.le_of_ble_eq_true rfl) (Nat.le_of_ble_eq_true rfl) (show cells + 1 ≤ 601024 by omega) (show slots + 6 ≤ 7293034 by omega) ?_
  show At (gO G z) X (cells + 1) (slots + 6) 2415 ((5, vI (cod [eI] e)) :: LV (gO G z) b i) [vI bb] V2
  refine x_istore A2.2.2.2.2.1 C2 dL_law_2415 rfl ?_
  refine tl_Z A2 h3 cod_rg (fun c => ?_) (by omega) (by omega) dL_law_2417 dL_law_2418 dL_law_2421 dL_law_2423 dL_law_2428 dL_law_2430 dL_law_2433 dL_law_2434 dL_law_2435 dL_law_2436 dL_law_2438 dL_law_2441 dL_law_2442 dL_law_2445 dL_law_2446 dL_law_2447 dL_law_2452 rfl (K.gO V2 S' P' _ _ h5 (by omega) (by omega))
  obtain ⟨r, hr⟩ := cod_e c
  have e1 := hz2 r hr
  have e2 := h4 r hr
  rw [gO_6 (by rw [e1]; split <;> omega), e1, e2]
theorem lc_servedWithout {G : GT} {X : CT} {cells slots b L : Nat} {xs : Nat → Int32} {i : Int} {V : VV} {S : Su} {P : Pl} (A : LA G X b L xs) (hi : 0 ≤ i) (hi2 : i + 6 ≤ (L : Int)) (h : RV V S P) (hc : cells + 10 ≤ 601024) (hs : slots + 60 ≤ 7293034) (K : Nx G X b i cells slots) : At G X cells slots 2455 (LV G b i) [] V := by
  obtain ⟨e, V1, bb, V2, h1, h2, h3, h4, S', P', h5⟩ := op_servedWithout (sv_rg (xs := xs) (k := i + 1)) V S P h
  have hN : gN G = 155 := A.2.2.2.2.2.1
  have C := A.1
  refine r_aload_n C dL_law_2455 rfl ?_
  refine ld_arg A dL_law_2456 dL_law_2457 dL_law_2459 dL_law_2460 dL_law_2461 rfl rfl (by omega) (by omega) ?_
  refine r_aload_n C dL_law_2462 rfl ?_
  refine q_callW (n := 3) (As := [.ref (gB G + 0), vI (sv xs (i + 1)), .ref (gB G + 154)]) (rest := []) C A.2.2.1 A.2.2.2.1 dL_law_2463 lL_308 whL_servedWithout wiL (by decide +kernel) (by decide +kernel) (ew_servedWithout C.lt hN A.2.2.2.2.2.2.1 h1) rfl rfl (Nat.le_of_ble_eq_true rfl) (Nat.le_of_ble_eq_true rfl) (Nat.le_of_ble_eq_true rfl) (show cells + 1 ≤ 601024 by omega) (show slots + 6 ≤ 7293034 by omega) ?_
  obtain ⟨z, hz, hz2⟩ := oGI_ex (G := G) (e := e)
  rw [hz]
  refine AtH.gO (z := z) ?_
  have A2 := A.gO (z := z)
  have C2 := A2.1
  show At (gO G z) X (cells + 1) (slots + 6) 2466 (LV (gO G z) b i) [vI (cod [eI] e)] V1
  refine x_istore A2.2.2.2.2.1 C2 dL_law_2466 rfl ?_
  refine r_aload_n C2 dL_law_2468 rfl ?_
  refine ld_arg A2 dL_law_2469 dL_law_2470 dL_law_2472 dL_law_2473 dL_law_2474 rfl rfl (by omega) (by omega) ?_
  refine q_callV (kk0 := 148) (As := [vI (sv xs (i + 1))]) (rest := []) C2 A2.2.2.2.1 dL_law_2475 lL_310 w6_servedWithout (rc_model (show 154 ≤ gN G by omega)) (ev6_servedWithout C2.lt (show 154 ≤ gN G by omega) h2) rfl rfl (Nat.le_of_ble_eq_true rfl) (Nat.le_of_ble_eq_true rfl) (Nat.le_of_ble_eq_true rfl) (show cells + 1 ≤ 601024 by omega) (show slots + 6 ≤ 7293034 by omega) ?_
  show At (gO G z) X (cells + 1) (slots + 6) 2478 ((5, vI (cod [eI] e)) :: LV (gO G z) b i) [vI bb] V2
  refine x_istore A2.2.2.2.2.1 C2 dL_law_2478 rfl ?_
  refine tl_I A2 h3 cod_rg (fun c => ?_) (by omega) (by omega) dL_law_2480 dL_law_2481 dL_law_2484 dL_law_2486 dL_law_2491 dL_law_2493 dL_law_2496 dL_law_2497 dL_law_2498 dL_law_2499 dL_law_2501 dL_law_2502 dL_law_2503 dL_law_2508 rfl (K.gO V2 S' P' _ _ h5 (by omega) (by omega))
  obtain ⟨r, hr⟩ := cod_e c
  have e1 := hz2 r hr
  have e2 := h4 r hr
  rw [gO_6 (by rw [e1]; exact (rg_nrm r).1), e1, e2]
theorem lc_feasibleStart {G : GT} {X : CT} {cells slots b L : Nat} {xs : Nat → Int32} {i : Int} {V : VV} {S : Su} {P : Pl} (A : LA G X b L xs) (hi : 0 ≤ i) (hi2 : i + 6 ≤ (L : Int)) (h : RV V S P) (hc : cells + 10 ≤ 601024) (hs : slots + 60 ≤ 7293034) (K : Nx G X b i cells slots) : At G X cells slots 2511 (LV G b i) [] V := by
  obtain ⟨e, V1, bb, V2, h1, h2, h3, h4, S', P', h5⟩ := op_feasibleStart (sv_rg (xs := xs) (k := i + 1)) V S P h
  have hN : gN G = 155 := A.2.2.2.2.2.1
  have C := A.1
  refine r_aload_n C dL_law_2511 rfl ?_
  refine ld_arg A dL_law_2512 dL_law_2513 dL_law_2515 dL_law_2516 dL_law_2517 rfl rfl (by omega) (by omega) ?_
  refine r_aload_n C dL_law_2518 rfl ?_
  refine q_callW (n := 3) (As := [.ref (gB G + 0), vI (sv xs (i + 1)), .ref (gB G + 154)]) (rest := []) C A.2.2.1 A.2.2.2.1 dL_law_2519 lL_311 whL_feasibleStart wiL (by decide +kernel) (by decide +kernel) (ew_feasibleStart C.lt hN A.2.2.2.2.2.2.1 h1) rfl rfl (Nat.le_of_ble_eq_true rfl) (Nat.le_of_ble_eq_true rfl) (Nat.le_of_ble_eq_true rfl) (show cells + 1 ≤ 601024 by omega) (show slots + 6 ≤ 7293034 by omega) ?_
  obtain ⟨z, hz, hz2⟩ := oGI_ex (G := G) (e := e)
  rw [hz]
  refine AtH.gO (z := z) ?_
  have A2 := A.gO (z := z)
  have C2 := A2.1
  show At (gO G z) X (cells + 1) (slots + 6) 2522 (LV (gO G z) b i) [vI (cod [eI] e)] V1
  refine x_istore A2.2.2.2.2.1 C2 dL_law_2522 rfl ?_
  refine r_aload_n C2 dL_law_2524 rfl ?_
  refine ld_arg A2 dL_law_2525 dL_law_2526 dL_law_2528 dL_law_2529 dL_law_2530 rfl rfl (by omega) (by omega) ?_
  refine q_callV (kk0 := 148) (As := [vI (sv xs (i + 1))]) (rest := []) C2 A2.2.2.2.1 dL_law_2531 lL_313 w6_feasibleStart (rc_model (show 154 ≤ gN G by omega)) (ev6_feasibleStart C2.lt (show 154 ≤ gN G by omega) h2) rfl rfl (Nat.le_of_ble_eq_true rfl) (Nat.le_of_ble_eq_true rfl) (Nat.le_of_ble_eq_true rfl) (show cells + 1 ≤ 601024 by omega) (show slots + 6 ≤ 7293034 by omega) ?_
  show At (gO G z) X (cells + 1) (slots + 6) 2534 ((5, vI (cod [eI] e)) :: LV (gO G z) b i) [vI bb] V2
  refine x_istore A2.2.2.2.2.1 C2 dL_law_2534 rfl ?_
  refine tl_I A2 h3 cod_rg (fun c => ?_) (by omega) (by omega) dL_law_2536 dL_law_2537 dL_law_2540 dL_law_2542 dL_law_2547 dL_law_2549 dL_law_2552 dL_law_2553 dL_law_2554 dL_law_2555 dL_law_2557 dL_law_2558 dL_law_2559 dL_law_2564 rfl (K.gO V2 S' P' _ _ h5 (by omega) (by omega))
  obtain ⟨r, hr⟩ := cod_e c
  have e1 := hz2 r hr
  have e2 := h4 r hr
  rw [gO_6 (by rw [e1]; exact (rg_nrm r).1), e1, e2]
theorem lc_waitingWeight {G : GT} {X : CT} {cells slots b L : Nat} {xs : Nat → Int32} {i : Int} {V : VV} {S : Su} {P : Pl} (A : LA G X b L xs) (hi : 0 ≤ i) (hi2 : i + 6 ≤ (L : Int)) (h : RV V S P) (hc : cells + 10 ≤ 601024) (hs : slots + 60 ≤ 7293034) (K : Nx G X b i cells slots) : At G X cells slots 2567 (LV G b i) [] V := by
  obtain ⟨r, V2, h1, h2, S', P', h5⟩ := op_waitingWeight V S P h
  have hN : gN G = 155 := A.2.2.2.2.2.1
  have C := A.1
  refine r_aload_n C dL_law_2567 rfl ?_
  refine q_callV (kk0 := 0) (As := []) (rest := []) C A.2.2.2.1 dL_law_2568 lL_314 w5_waitingWeight (rc_main (by omega)) (ev5_waitingWeight C.lt (by omega) h1) rfl rfl (Nat.le_of_ble_eq_true rfl) (Nat.le_of_ble_eq_true rfl) (Nat.le_of_ble_eq_true rfl) (show cells ≤ 601024 by omega) (show slots ≤ 7293034 by omega) ?_
  show At G X cells slots 2571 (LV G b i) [vI r] V
  refine r_aload_n C dL_law_2571 rfl ?_
  refine q_callV (kk0 := 148) (As := []) (rest := [vI r]) C A.2.2.2.1 dL_law_2572 lL_317 w6_waitingWeight (rc_model (by omega)) (ev6_waitingWeight C.lt (by omega) h2) rfl rfl (Nat.le_of_ble_eq_true rfl) (Nat.le_of_ble_eq_true rfl) (Nat.le_of_ble_eq_true rfl) (show cells ≤ 601024 by omega) (show slots ≤ 7293034 by omega) ?_
  show At G X cells slots 2575 (LV G b i) [vI r, vI r] V2
  refine x_icmpeq (tgt := 3481) C dL_law_2575 rfl (fun _ => ?_) (fun c => absurd rfl c)
  exact K.self V2 S' P' _ _ h5 (by omega) (by omega)
theorem lc_bookingsMade {G : GT} {X : CT} {cells slots b L : Nat} {xs : Nat → Int32} {i : Int} {V : VV} {S : Su} {P : Pl} (A : LA G X b L xs) (hi : 0 ≤ i) (hi2 : i + 6 ≤ (L : Int)) (h : RV V S P) (hc : cells + 10 ≤ 601024) (hs : slots + 60 ≤ 7293034) (K : Nx G X b i cells slots) : At G X cells slots 2580 (LV G b i) [] V := by
  obtain ⟨r, V2, h1, h2, S', P', h5⟩ := op_bookingsMade V S P h
  have hN : gN G = 155 := A.2.2.2.2.2.1
  have C := A.1
  refine r_aload_n C dL_law_2580 rfl ?_
  refine q_callV (kk0 := 0) (As := []) (rest := []) C A.2.2.2.1 dL_law_2581 lL_318 w5_bookingsMade (rc_main (by omega)) (ev5_bookingsMade C.lt (by omega) h1) rfl rfl (Nat.le_of_ble_eq_true rfl) (Nat.le_of_ble_eq_true rfl) (Nat.le_of_ble_eq_true rfl) (show cells ≤ 601024 by omega) (show slots ≤ 7293034 by omega) ?_
  show At G X cells slots 2584 (LV G b i) [vI r] V
  refine r_aload_n C dL_law_2584 rfl ?_
  refine q_callV (kk0 := 148) (As := []) (rest := [vI r]) C A.2.2.2.1 dL_law_2585 lL_321 w6_bookingsMade (rc_model (by omega)) (ev6_bookingsMade C.lt (by omega) h2) rfl rfl (Nat.le_of_ble_eq_true rfl) (Nat.le_of_ble_eq_true rfl) (Nat.le_of_ble_eq_true rfl) (show cells ≤ 601024 by omega) (show slots ≤ 7293034 by omega) ?_
  show At G X cells slots 2588 (LV G b i) [vI r, vI r] V2
  refine x_icmpeq (tgt := 3481) C dL_law_2588 rfl (fun _ => ?_) (fun c => absurd rfl c)
  exact K.self V2 S' P' _ _ h5 (by omega) (by omega)
theorem lc_bookingsCancelled {G : GT} {X : CT} {cells slots b L : Nat} {xs : Nat → Int32} {i : Int} {V : VV} {S : Su} {P : Pl} (A : LA G X b L xs) (hi : 0 ≤ i) (hi2 : i + 6 ≤ (L : Int)) (h : RV V S P) (hc : cells + 10 ≤ 601024) (hs : slots + 60 ≤ 7293034) (K : Nx G X b i cells slots) : At G X cells slots 2593 (LV G b i) [] V := by
  obtain ⟨r, V2, h1, h2, S', P', h5⟩ := op_bookingsCancelled V S P h
  have hN : gN G = 155 := A.2.2.2.2.2.1
  have C := A.1
  refine r_aload_n C dL_law_2593 rfl ?_
  refine q_callV (kk0 := 0) (As := []) (rest := []) C A.2.2.2.1 dL_law_2594 lL_322 w5_bookingsCancelled (rc_main (by omega)) (ev5_bookingsCancelled C.lt (by omega) h1) rfl rfl (Nat.le_of_ble_eq_true rfl) (Nat.le_of_ble_eq_true rfl) (Nat.le_of_ble_eq_true rfl) (show cells ≤ 601024 by omega) (show slots ≤ 7293034 by omega) ?_
  show At G X cells slots 2597 (LV G b i) [vI r] V
  refine r_aload_n C dL_law_2597 rfl ?_
  refine q_callV (kk0 := 148) (As := []) (rest := [vI r]) C A.2.2.2.1 dL_law_2598 lL_325 w6_bookingsCancelled (rc_model (by omega)) (ev6_bookingsCancelled C.lt (by omega) h2) rfl rfl (Nat.le_of_ble_eq_true rfl) (Nat.le_of_ble_eq_true rfl) (Nat.le_of_ble_eq_true rfl) (show cells ≤ 601024 by omega) (show slots ≤ 7293034 by omega) ?_
  show At G X cells slots 2601 (LV G b i) [vI r, vI r] V2
  refine x_icmpeq (tgt := 3481) C dL_law_2601 rfl (fun _ => ?_) (fun c => absurd rfl c)
  exact K.self V2 S' P' _ _ h5 (by omega) (by omega)
theorem lc_requestsServed {G : GT} {X : CT} {cells slots b L : Nat} {xs : Nat → Int32} {i : Int} {V : VV} {S : Su} {P : Pl} (A : LA G X b L xs) (hi : 0 ≤ i) (hi2 : i + 6 ≤ (L : Int)) (h : RV V S P) (hc : cells + 10 ≤ 601024) (hs : slots + 60 ≤ 7293034) (K : Nx G X b i cells slots) : At G X cells slots 2606 (LV G b i) [] V := by
  obtain ⟨r, V2, h1, h2, S', P', h5⟩ := op_requestsServed V S P h
  have hN : gN G = 155 := A.2.2.2.2.2.1
  have C := A.1
  refine r_aload_n C dL_law_2606 rfl ?_
  refine q_callV (kk0 := 0) (As := []) (rest := []) C A.2.2.2.1 dL_law_2607 lL_326 w5_requestsServed (rc_main (by omega)) (ev5_requestsServed C.lt (by omega) h1) rfl rfl (Nat.le_of_ble_eq_true rfl) (Nat.le_of_ble_eq_true rfl) (Nat.le_of_ble_eq_true rfl) (show cells ≤ 601024 by omega) (show slots ≤ 7293034 by omega) ?_
  show At G X cells slots 2610 (LV G b i) [vI r] V
  refine r_aload_n C dL_law_2610 rfl ?_
  refine q_callV (kk0 := 148) (As := []) (rest := [vI r]) C A.2.2.2.1 dL_law_2611 lL_329 w6_requestsServed (rc_model (by omega)) (ev6_requestsServed C.lt (by omega) h2) rfl rfl (Nat.le_of_ble_eq_true rfl) (Nat.le_of_ble_eq_true rfl) (Nat.le_of_ble_eq_true rfl) (show cells ≤ 601024 by omega) (show slots ≤ 7293034 by omega) ?_
  show At G X cells slots 2614 (LV G b i) [vI r, vI r] V2
  refine x_icmpeq (tgt := 3481) C dL_law_2614 rfl (fun _ => ?_) (fun c => absurd rfl c)
  exact K.self V2 S' P' _ _ h5 (by omega) (by omega)
