
theorem d_LAW_2002 : decode code 2002 = .ok (.aload_n 1, 1) := by decide +kernel
theorem d_LAW_2003 : decode code 2003 = .ok (.aload_n 0, 1) := by decide +kernel
theorem d_LAW_2004 : decode code 2004 = .ok (.iload 4, 2) := by decide +kernel
theorem d_LAW_2006 : decode code 2006 = .ok (.iconst 1, 1) := by decide +kernel
theorem d_LAW_2007 : decode code 2007 = .ok (.iadd, 1) := by decide +kernel
theorem d_LAW_2008 : decode code 2008 = .ok (.iaload, 1) := by decide +kernel
theorem d_LAW_2009 : decode code 2009 = .ok (.i2l, 1) := by decide +kernel
theorem d_LAW_2010 : decode code 2010 = .ok (.bipush 32, 2) := by decide +kernel
theorem d_LAW_2012 : decode code 2012 = .ok (.lshl, 1) := by decide +kernel
theorem d_LAW_2013 : decode code 2013 = .ok (.aload_n 0, 1) := by decide +kernel
theorem d_LAW_2014 : decode code 2014 = .ok (.iload 4, 2) := by decide +kernel
theorem d_LAW_2016 : decode code 2016 = .ok (.iconst 2, 1) := by decide +kernel
theorem d_LAW_2017 : decode code 2017 = .ok (.iadd, 1) := by decide +kernel
theorem d_LAW_2018 : decode code 2018 = .ok (.iaload, 1) := by decide +kernel
theorem d_LAW_2019 : decode code 2019 = .ok (.i2l, 1) := by decide +kernel
theorem d_LAW_2020 : decode code 2020 = .ok (.ldc2_w 97, 3) := by decide +kernel
theorem d_LAW_2023 : decode code 2023 = .ok (.land, 1) := by decide +kernel
theorem d_LAW_2024 : decode code 2024 = .ok (.lor, 1) := by decide +kernel
theorem d_LAW_2025 : decode code 2025 = .ok (.invokevirtual 191, 3) := by decide +kernel
theorem d_LAW_2028 : decode code 2028 = .ok (.aload_n 2, 1) := by decide +kernel
theorem d_LAW_2029 : decode code 2029 = .ok (.aload_n 0, 1) := by decide +kernel
theorem d_LAW_2030 : decode code 2030 = .ok (.iload 4, 2) := by decide +kernel
theorem d_LAW_2032 : decode code 2032 = .ok (.iconst 1, 1) := by decide +kernel
theorem d_LAW_2033 : decode code 2033 = .ok (.iadd, 1) := by decide +kernel
theorem d_LAW_2034 : decode code 2034 = .ok (.iaload, 1) := by decide +kernel
theorem d_LAW_2035 : decode code 2035 = .ok (.i2l, 1) := by decide +kernel
theorem d_LAW_2036 : decode code 2036 = .ok (.bipush 32, 2) := by decide +kernel
theorem d_LAW_2038 : decode code 2038 = .ok (.lshl, 1) := by decide +kernel
theorem d_LAW_2039 : decode code 2039 = .ok (.aload_n 0, 1) := by decide +kernel
theorem d_LAW_2040 : decode code 2040 = .ok (.iload 4, 2) := by decide +kernel
theorem d_LAW_2042 : decode code 2042 = .ok (.iconst 2, 1) := by decide +kernel
theorem d_LAW_2043 : decode code 2043 = .ok (.iadd, 1) := by decide +kernel
theorem d_LAW_2044 : decode code 2044 = .ok (.iaload, 1) := by decide +kernel
theorem d_LAW_2045 : decode code 2045 = .ok (.i2l, 1) := by decide +kernel
theorem d_LAW_2046 : decode code 2046 = .ok (.ldc2_w 97, 3) := by decide +kernel
theorem d_LAW_2049 : decode code 2049 = .ok (.land, 1) := by decide +kernel
theorem d_LAW_2050 : decode code 2050 = .ok (.lor, 1) := by decide +kernel
theorem d_LAW_2051 : decode code 2051 = .ok (.invokevirtual 195, 3) := by decide +kernel
theorem d_LAW_2054 : decode code 2054 = .ok (.lcmp, 1) := by decide +kernel
theorem d_LAW_2055 : decode code 2055 = .ok (.ifCond .eq 120, 3) := by decide +kernel
theorem d_LAW_2058 : decode code 2058 = .ok (.iconst 0, 1) := by decide +kernel
theorem d_LAW_2059 : decode code 2059 = .ok (.ireturn, 1) := by decide +kernel
theorem d_LAW_2060 : decode code 2060 = .ok (.aload_n 1, 1) := by decide +kernel
theorem d_LAW_2061 : decode code 2061 = .ok (.aload_n 0, 1) := by decide +kernel
theorem d_LAW_2062 : decode code 2062 = .ok (.iload 4, 2) := by decide +kernel
theorem d_LAW_2064 : decode code 2064 = .ok (.iconst 1, 1) := by decide +kernel
theorem d_LAW_2065 : decode code 2065 = .ok (.iadd, 1) := by decide +kernel
theorem d_LAW_2066 : decode code 2066 = .ok (.iaload, 1) := by decide +kernel
theorem d_LAW_2067 : decode code 2067 = .ok (.i2l, 1) := by decide +kernel
theorem d_LAW_2068 : decode code 2068 = .ok (.bipush 32, 2) := by decide +kernel
theorem d_LAW_2070 : decode code 2070 = .ok (.lshl, 1) := by decide +kernel
theorem d_LAW_2071 : decode code 2071 = .ok (.aload_n 0, 1) := by decide +kernel
theorem d_LAW_2072 : decode code 2072 = .ok (.iload 4, 2) := by decide +kernel
theorem d_LAW_2074 : decode code 2074 = .ok (.iconst 2, 1) := by decide +kernel
theorem d_LAW_2075 : decode code 2075 = .ok (.iadd, 1) := by decide +kernel
theorem d_LAW_2076 : decode code 2076 = .ok (.iaload, 1) := by decide +kernel
theorem d_LAW_2077 : decode code 2077 = .ok (.i2l, 1) := by decide +kernel
theorem d_LAW_2078 : decode code 2078 = .ok (.ldc2_w 97, 3) := by decide +kernel
theorem d_LAW_2081 : decode code 2081 = .ok (.land, 1) := by decide +kernel
theorem d_LAW_2082 : decode code 2082 = .ok (.lor, 1) := by decide +kernel
theorem d_LAW_2083 : decode code 2083 = .ok (.invokevirtual 196, 3) := by decide +kernel
theorem d_LAW_2086 : decode code 2086 = .ok (.aload_n 2, 1) := by decide +kernel
theorem d_LAW_2087 : decode code 2087 = .ok (.aload_n 0, 1) := by decide +kernel
theorem d_LAW_2088 : decode code 2088 = .ok (.iload 4, 2) := by decide +kernel
theorem d_LAW_2090 : decode code 2090 = .ok (.iconst 1, 1) := by decide +kernel
theorem d_LAW_2091 : decode code 2091 = .ok (.iadd, 1) := by decide +kernel
theorem d_LAW_2092 : decode code 2092 = .ok (.iaload, 1) := by decide +kernel
theorem d_LAW_2093 : decode code 2093 = .ok (.i2l, 1) := by decide +kernel
theorem d_LAW_2094 : decode code 2094 = .ok (.bipush 32, 2) := by decide +kernel
theorem d_LAW_2096 : decode code 2096 = .ok (.lshl, 1) := by decide +kernel
theorem d_LAW_2097 : decode code 2097 = .ok (.aload_n 0, 1) := by decide +kernel
theorem d_LAW_2098 : decode code 2098 = .ok (.iload 4, 2) := by decide +kernel
theorem d_LAW_2100 : decode code 2100 = .ok (.iconst 2, 1) := by decide +kernel
theorem d_LAW_2101 : decode code 2101 = .ok (.iadd, 1) := by decide +kernel
theorem d_LAW_2102 : decode code 2102 = .ok (.iaload, 1) := by decide +kernel
theorem d_LAW_2103 : decode code 2103 = .ok (.i2l, 1) := by decide +kernel
theorem d_LAW_2104 : decode code 2104 = .ok (.ldc2_w 97, 3) := by decide +kernel
theorem d_LAW_2107 : decode code 2107 = .ok (.land, 1) := by decide +kernel
theorem d_LAW_2108 : decode code 2108 = .ok (.lor, 1) := by decide +kernel
theorem d_LAW_2109 : decode code 2109 = .ok (.invokevirtual 199, 3) := by decide +kernel
theorem d_LAW_2112 : decode code 2112 = .ok (.lcmp, 1) := by decide +kernel
theorem d_LAW_2113 : decode code 2113 = .ok (.ifCond .eq 62, 3) := by decide +kernel
theorem d_LAW_2116 : decode code 2116 = .ok (.iconst 0, 1) := by decide +kernel
theorem d_LAW_2117 : decode code 2117 = .ok (.ireturn, 1) := by decide +kernel
theorem d_LAW_2118 : decode code 2118 = .ok (.aload_n 1, 1) := by decide +kernel
theorem d_LAW_2119 : decode code 2119 = .ok (.aload_n 0, 1) := by decide +kernel
theorem d_LAW_2120 : decode code 2120 = .ok (.iload 4, 2) := by decide +kernel
theorem d_LAW_2122 : decode code 2122 = .ok (.iconst 1, 1) := by decide +kernel
theorem d_LAW_2123 : decode code 2123 = .ok (.iadd, 1) := by decide +kernel
theorem d_LAW_2124 : decode code 2124 = .ok (.iaload, 1) := by decide +kernel
theorem d_LAW_2125 : decode code 2125 = .ok (.i2l, 1) := by decide +kernel
theorem d_LAW_2126 : decode code 2126 = .ok (.bipush 32, 2) := by decide +kernel
theorem d_LAW_2128 : decode code 2128 = .ok (.lshl, 1) := by decide +kernel
theorem d_LAW_2129 : decode code 2129 = .ok (.aload_n 0, 1) := by decide +kernel
theorem d_LAW_2130 : decode code 2130 = .ok (.iload 4, 2) := by decide +kernel
theorem d_LAW_2132 : decode code 2132 = .ok (.iconst 2, 1) := by decide +kernel
theorem d_LAW_2133 : decode code 2133 = .ok (.iadd, 1) := by decide +kernel
theorem d_LAW_2134 : decode code 2134 = .ok (.iaload, 1) := by decide +kernel
theorem d_LAW_2135 : decode code 2135 = .ok (.i2l, 1) := by decide +kernel
theorem d_LAW_2136 : decode code 2136 = .ok (.ldc2_w 97, 3) := by decide +kernel
theorem d_LAW_2139 : decode code 2139 = .ok (.land, 1) := by decide +kernel
theorem d_LAW_2140 : decode code 2140 = .ok (.lor, 1) := by decide +kernel
theorem d_LAW_2141 : decode code 2141 = .ok (.invokevirtual 200, 3) := by decide +kernel
theorem d_LAW_2144 : decode code 2144 = .ok (.aload_n 2, 1) := by decide +kernel
theorem d_LAW_2145 : decode code 2145 = .ok (.aload_n 0, 1) := by decide +kernel
theorem d_LAW_2146 : decode code 2146 = .ok (.iload 4, 2) := by decide +kernel
theorem d_LAW_2148 : decode code 2148 = .ok (.iconst 1, 1) := by decide +kernel
theorem d_LAW_2149 : decode code 2149 = .ok (.iadd, 1) := by decide +kernel
theorem d_LAW_2150 : decode code 2150 = .ok (.iaload, 1) := by decide +kernel
theorem d_LAW_2151 : decode code 2151 = .ok (.i2l, 1) := by decide +kernel
theorem d_LAW_2152 : decode code 2152 = .ok (.bipush 32, 2) := by decide +kernel
theorem d_LAW_2154 : decode code 2154 = .ok (.lshl, 1) := by decide +kernel
theorem d_LAW_2155 : decode code 2155 = .ok (.aload_n 0, 1) := by decide +kernel
theorem d_LAW_2156 : decode code 2156 = .ok (.iload 4, 2) := by decide +kernel
theorem d_LAW_2158 : decode code 2158 = .ok (.iconst 2, 1) := by decide +kernel
theorem d_LAW_2159 : decode code 2159 = .ok (.iadd, 1) := by decide +kernel
theorem d_LAW_2160 : decode code 2160 = .ok (.iaload, 1) := by decide +kernel
theorem d_LAW_2161 : decode code 2161 = .ok (.i2l, 1) := by decide +kernel
theorem d_LAW_2162 : decode code 2162 = .ok (.ldc2_w 97, 3) := by decide +kernel
theorem d_LAW_2165 : decode code 2165 = .ok (.land, 1) := by decide +kernel
theorem d_LAW_2166 : decode code 2166 = .ok (.lor, 1) := by decide +kernel
theorem d_LAW_2167 : decode code 2167 = .ok (.invokevirtual 204, 3) := by decide +kernel
theorem d_LAW_2170 : decode code 2170 = .ok (.if_icmp .eq 5, 3) := by decide +kernel
theorem d_LAW_2173 : decode code 2173 = .ok (.iconst 0, 1) := by decide +kernel
theorem d_LAW_2174 : decode code 2174 = .ok (.ireturn, 1) := by decide +kernel
section
variable {p : Program} {l : Launch} {e : Env} {R : Room} {s : State} {m : MethodId} {args : Array Value} {below : List Frame} {meth : Method} {c : Code} {H : Heap} {locs : List Loc} {cells slots : Nat} {Q : State → Prop} {ls : Array Slot} {dC : Nat → ClassId} {dI : Nat → Nat → Nat} {hx hm o : Nat} {S : CS} {M : MS} {a : Int64} {b L : Nat} {xs : Nat → Int32}
set_option maxRecDepth 100000 in
set_option maxHeartbeats 1000000 in
theorem law_atomic (C0 : Cx p s m meth c args R code "ZoneFilesLaw" 8 (some .boolean) 12 518) (hLX : LX s b L xs) (hno : NT l) (nf : Nat) {i : Int32} (h1 : vp_in (i + 1) L) (h2 : vp_in (i + 2) L) (hLA : LA dC dI s hx hm o S M a H locs) (hl : lv_has ls 8 [(0, .ref b), (1, .ref hx), (2, .ref hm), (3, .ref o), (4, .int i)]) {S' : CS} {rc r0 : Int64} {kc ks : Nat} (hc : cq_atomic nf S (((xs (i + 1).toNatClampNeg).toInt64 <<< ((32 : Int32).toInt64 &&& 63)) ||| ((xs (i + 2).toNatClampNeg).toInt64 &&& 4294967295)) = some (rc, S', kc, ks)) {M' : MS} (hm1 : f_Mo_atomic nf (((xs (i + 1).toNatClampNeg).toInt64 <<< ((32 : Int32).toInt64 &&& 63)) ||| ((xs (i + 2).toNatClampNeg).toInt64 &&& 4294967295)) M.1 M.2.1 M.2.2.1 M.2.2.2 = some (r0, M')) (he : rc = r0) (hcell : cells + kc ≤ R.cells) (hslot : slots + ks ≤ R.slots)
    (kk : ∀ (H1 : Heap) (locs1 : List Loc) (a1 : Int64) (ls1 : Array Slot), LA dC dI s hx hm o S' M' a1 H1 locs1 → lv_has ls1 8 [(0, .ref b), (1, .ref hx), (2, .ref hm), (3, .ref o), (4, .int i)] → W p l e R s m args below meth c H1 locs1 (cells + kc) (slots + ks) Q (F0 m 2175 ls1 [])) : W p l e R s m args below meth c H locs cells slots Q (F0 m 2002 ls []) := by
  obtain ⟨hx', hb, hr, hml, hown, hts, hlocks, hRf, hRl⟩ := id C0
  obtain ⟨vi, vj, va, vb⟩ := M'
  refine lv_aload_n hx' hb d_LAW_2002 rfl (lv_at hl 1 rfl) ?_
  refine lv_aload_n hx' hb d_LAW_2003 rfl (lv_at hl 0 rfl) ?_
  refine lv_iload hx' hb d_LAW_2004 (lv_at hl 4 rfl) ?_
  refine lv_iconst (v := 1) hx' hb d_LAW_2006 (by decide) ?_
  refine lv_iadd hx' hb d_LAW_2007 ?_
  refine law_ld C0 hLX hLA h1 d_LAW_2008 ?_
  refine lv_i2l hx' hb d_LAW_2009 rfl ?_
  refine lv_bipush (v := 32) hx' hb d_LAW_2010 (by decide) ?_
  refine lv_lshl hx' hb d_LAW_2012 rfl ?_
  refine lv_aload_n hx' hb d_LAW_2013 rfl (lv_at hl 0 rfl) ?_
  refine lv_iload hx' hb d_LAW_2014 (lv_at hl 4 rfl) ?_
  refine lv_iconst (v := 2) hx' hb d_LAW_2016 (by decide) ?_
  refine lv_iadd hx' hb d_LAW_2017 ?_
  refine law_ld C0 hLX hLA h2 d_LAW_2018 ?_
  refine lv_i2l hx' hb d_LAW_2019 rfl ?_
  refine lv_ldc2 (v := 4294967295) hx' hb hown (hts (.constantLong "ZoneFilesLaw" 97 4294967295) m_8_234) d_LAW_2020 ?_
  refine lv_land hx' hb d_LAW_2023 ?_
  refine lv_lor hx' hb d_LAW_2024 ?_
  refine law_C (As := [.long (((xs (i + 1).toNatClampNeg).toInt64 <<< ((32 : Int32).toInt64 &&& 63)) ||| ((xs (i + 2).toNatClampNeg).toInt64 &&& 4294967295))]) (rest := []) C0 hLX hLA (fun ad cA za zad zcA => q_atomic l dC dI hx ad cA za zad zcA S nf (((xs (i + 1).toNatClampNeg).toInt64 <<< ((32 : Int32).toInt64 &&& 63)) ||| ((xs (i + 2).toNatClampNeg).toInt64 &&& 4294967295)) hc) (cwV 1 hts (gdV m_3_13 m_3_14 m_3_15 m_1_1 m_3_16) rfl rfl rfl (by decide +kernel) ⟨Nat.le_trans (Nat.le_of_ble_eq_true rfl) hRf, Nat.le_trans (Nat.le_of_ble_eq_true rfl) hRl⟩) rfl hl.1 rfl (Nat.le_of_ble_eq_true rfl) d_LAW_2025 ⟨hcell, hslot⟩ rfl (fun H locs hLA => ?_)
  refine lv_aload_n hx' hb d_LAW_2028 rfl (lv_at hl 2 rfl) ?_
  refine lv_aload_n hx' hb d_LAW_2029 rfl (lv_at hl 0 rfl) ?_
  refine lv_iload hx' hb d_LAW_2030 (lv_at hl 4 rfl) ?_
  refine lv_iconst (v := 1) hx' hb d_LAW_2032 (by decide) ?_
  refine lv_iadd hx' hb d_LAW_2033 ?_
  refine law_ld C0 hLX hLA h1 d_LAW_2034 ?_
  refine lv_i2l hx' hb d_LAW_2035 rfl ?_
  refine lv_bipush (v := 32) hx' hb d_LAW_2036 (by decide) ?_
  refine lv_lshl hx' hb d_LAW_2038 rfl ?_
  refine lv_aload_n hx' hb d_LAW_2039 rfl (lv_at hl 0 rfl) ?_
  refine lv_iload hx' hb d_LAW_2040 (lv_at hl 4 rfl) ?_
  refine lv_iconst (v := 2) hx' hb d_LAW_2042 (by decide) ?_
  refine lv_iadd hx' hb d_LAW_2043 ?_
  refine law_ld C0 hLX hLA h2 d_LAW_2044 ?_
  refine lv_i2l hx' hb d_LAW_2045 rfl ?_
  refine lv_ldc2 (v := 4294967295) hx' hb hown (hts (.constantLong "ZoneFilesLaw" 97 4294967295) m_8_234) d_LAW_2046 ?_
  refine lv_land hx' hb d_LAW_2049 ?_
  refine lv_lor hx' hb d_LAW_2050 ?_
  refine law_M (As := [.long (((xs (i + 1).toNatClampNeg).toInt64 <<< ((32 : Int32).toInt64 &&& 63)) ||| ((xs (i + 2).toNatClampNeg).toInt64 &&& 4294967295))]) (rest := [.long rc]) (M' := (vi, vj, va, vb)) C0 hLX hLA (fun r cM => OM.ofMo (fun sz => c_Mo_atomic l dC dI hm r cM sz nf (((xs (i + 1).toNatClampNeg).toInt64 <<< ((32 : Int32).toInt64 &&& 63)) ||| ((xs (i + 2).toNatClampNeg).toInt64 &&& 4294967295)) M.1 M.2.1 M.2.2.1 M.2.2.2 hm1)) (cwV 1 hts (gdV m_8_218 m_8_219 m_8_220 m_1_10 m_8_221) rfl rfl rfl (by decide +kernel) ⟨Nat.le_trans (Nat.le_of_ble_eq_true rfl) hRf, Nat.le_trans (Nat.le_of_ble_eq_true rfl) hRl⟩) rfl hl.1 rfl (Nat.le_of_ble_eq_true rfl) d_LAW_2051 ⟨hcell, hslot⟩ rfl (fun H locs hLA => ?_)
  refine lc_eq (tgt := 2175) hx' hb d_LAW_2054 d_LAW_2055 (by decide) (fun _ => ?_) (fun cc => absurd he cc)
  exact kk _ _ _ _ hLA (lv_sub hl [0, 1, 2, 3, 4] rfl)
set_option maxRecDepth 100000 in
set_option maxHeartbeats 1000000 in
theorem law_instant (C0 : Cx p s m meth c args R code "ZoneFilesLaw" 8 (some .boolean) 12 518) (hLX : LX s b L xs) (hno : NT l) (nf : Nat) {i : Int32} (h1 : vp_in (i + 1) L) (h2 : vp_in (i + 2) L) (hLA : LA dC dI s hx hm o S M a H locs) (hl : lv_has ls 8 [(0, .ref b), (1, .ref hx), (2, .ref hm), (3, .ref o), (4, .int i)]) {S' : CS} {rc r0 : Int64} {kc ks : Nat} (hc : cq_instant nf S (((xs (i + 1).toNatClampNeg).toInt64 <<< ((32 : Int32).toInt64 &&& 63)) ||| ((xs (i + 2).toNatClampNeg).toInt64 &&& 4294967295)) = some (rc, S', kc, ks)) {M' : MS} (hm1 : f_Mo_instant nf (((xs (i + 1).toNatClampNeg).toInt64 <<< ((32 : Int32).toInt64 &&& 63)) ||| ((xs (i + 2).toNatClampNeg).toInt64 &&& 4294967295)) M.1 M.2.1 M.2.2.1 M.2.2.2 = some (r0, M')) (he : rc = r0) (hcell : cells + kc ≤ R.cells) (hslot : slots + ks ≤ R.slots)
    (kk : ∀ (H1 : Heap) (locs1 : List Loc) (a1 : Int64) (ls1 : Array Slot), LA dC dI s hx hm o S' M' a1 H1 locs1 → lv_has ls1 8 [(0, .ref b), (1, .ref hx), (2, .ref hm), (3, .ref o), (4, .int i)] → W p l e R s m args below meth c H1 locs1 (cells + kc) (slots + ks) Q (F0 m 2175 ls1 [])) : W p l e R s m args below meth c H locs cells slots Q (F0 m 2060 ls []) := by
  obtain ⟨hx', hb, hr, hml, hown, hts, hlocks, hRf, hRl⟩ := id C0
  obtain ⟨vi, vj, va, vb⟩ := M'
  refine lv_aload_n hx' hb d_LAW_2060 rfl (lv_at hl 1 rfl) ?_
  refine lv_aload_n hx' hb d_LAW_2061 rfl (lv_at hl 0 rfl) ?_
  refine lv_iload hx' hb d_LAW_2062 (lv_at hl 4 rfl) ?_
  refine lv_iconst (v := 1) hx' hb d_LAW_2064 (by decide) ?_
  refine lv_iadd hx' hb d_LAW_2065 ?_
  refine law_ld C0 hLX hLA h1 d_LAW_2066 ?_
  refine lv_i2l hx' hb d_LAW_2067 rfl ?_
  refine lv_bipush (v := 32) hx' hb d_LAW_2068 (by decide) ?_
  refine lv_lshl hx' hb d_LAW_2070 rfl ?_
  refine lv_aload_n hx' hb d_LAW_2071 rfl (lv_at hl 0 rfl) ?_
  refine lv_iload hx' hb d_LAW_2072 (lv_at hl 4 rfl) ?_
  refine lv_iconst (v := 2) hx' hb d_LAW_2074 (by decide) ?_
  refine lv_iadd hx' hb d_LAW_2075 ?_
  refine law_ld C0 hLX hLA h2 d_LAW_2076 ?_
  refine lv_i2l hx' hb d_LAW_2077 rfl ?_
  refine lv_ldc2 (v := 4294967295) hx' hb hown (hts (.constantLong "ZoneFilesLaw" 97 4294967295) m_8_234) d_LAW_2078 ?_
  refine lv_land hx' hb d_LAW_2081 ?_
  refine lv_lor hx' hb d_LAW_2082 ?_
  refine law_C (As := [.long (((xs (i + 1).toNatClampNeg).toInt64 <<< ((32 : Int32).toInt64 &&& 63)) ||| ((xs (i + 2).toNatClampNeg).toInt64 &&& 4294967295))]) (rest := []) C0 hLX hLA (fun ad cA za zad zcA => q_instant l dC dI hx ad cA za zad zcA S nf (((xs (i + 1).toNatClampNeg).toInt64 <<< ((32 : Int32).toInt64 &&& 63)) ||| ((xs (i + 2).toNatClampNeg).toInt64 &&& 4294967295)) hc) (cwV 1 hts (gdV m_3_22 m_3_23 m_3_24 m_1_1 m_3_25) rfl rfl rfl (by decide +kernel) ⟨Nat.le_trans (Nat.le_of_ble_eq_true rfl) hRf, Nat.le_trans (Nat.le_of_ble_eq_true rfl) hRl⟩) rfl hl.1 rfl (Nat.le_of_ble_eq_true rfl) d_LAW_2083 ⟨hcell, hslot⟩ rfl (fun H locs hLA => ?_)
  refine lv_aload_n hx' hb d_LAW_2086 rfl (lv_at hl 2 rfl) ?_
  refine lv_aload_n hx' hb d_LAW_2087 rfl (lv_at hl 0 rfl) ?_
  refine lv_iload hx' hb d_LAW_2088 (lv_at hl 4 rfl) ?_
  refine lv_iconst (v := 1) hx' hb d_LAW_2090 (by decide) ?_
  refine lv_iadd hx' hb d_LAW_2091 ?_
  refine law_ld C0 hLX hLA h1 d_LAW_2092 ?_
  refine lv_i2l hx' hb d_LAW_2093 rfl ?_
  refine lv_bipush (v := 32) hx' hb d_LAW_2094 (by decide) ?_
  refine lv_lshl hx' hb d_LAW_2096 rfl ?_
  refine lv_aload_n hx' hb d_LAW_2097 rfl (lv_at hl 0 rfl) ?_
  refine lv_iload hx' hb d_LAW_2098 (lv_at hl 4 rfl) ?_
  refine lv_iconst (v := 2) hx' hb d_LAW_2100 (by decide) ?_
  refine lv_iadd hx' hb d_LAW_2101 ?_
  refine law_ld C0 hLX hLA h2 d_LAW_2102 ?_
  refine lv_i2l hx' hb d_LAW_2103 rfl ?_
  refine lv_ldc2 (v := 4294967295) hx' hb hown (hts (.constantLong "ZoneFilesLaw" 97 4294967295) m_8_234) d_LAW_2104 ?_
  refine lv_land hx' hb d_LAW_2107 ?_
  refine lv_lor hx' hb d_LAW_2108 ?_
  refine law_M (As := [.long (((xs (i + 1).toNatClampNeg).toInt64 <<< ((32 : Int32).toInt64 &&& 63)) ||| ((xs (i + 2).toNatClampNeg).toInt64 &&& 4294967295))]) (rest := [.long rc]) (M' := (vi, vj, va, vb)) C0 hLX hLA (fun r cM => OM.ofMo (fun sz => c_Mo_instant l dC dI hm r cM sz nf (((xs (i + 1).toNatClampNeg).toInt64 <<< ((32 : Int32).toInt64 &&& 63)) ||| ((xs (i + 2).toNatClampNeg).toInt64 &&& 4294967295)) M.1 M.2.1 M.2.2.1 M.2.2.2 hm1)) (cwV 1 hts (gdV m_8_230 m_8_231 m_8_232 m_1_10 m_8_233) rfl rfl rfl (by decide +kernel) ⟨Nat.le_trans (Nat.le_of_ble_eq_true rfl) hRf, Nat.le_trans (Nat.le_of_ble_eq_true rfl) hRl⟩) rfl hl.1 rfl (Nat.le_of_ble_eq_true rfl) d_LAW_2109 ⟨hcell, hslot⟩ rfl (fun H locs hLA => ?_)
  refine lc_eq (tgt := 2175) hx' hb d_LAW_2112 d_LAW_2113 (by decide) (fun _ => ?_) (fun cc => absurd he cc)
  exact kk _ _ _ _ hLA (lv_sub hl [0, 1, 2, 3, 4] rfl)
set_option maxRecDepth 100000 in
set_option maxHeartbeats 1000000 in
theorem law_isLeap (C0 : Cx p s m meth c args R code "ZoneFilesLaw" 8 (some .boolean) 12 518) (hLX : LX s b L xs) (hno : NT l) (nf : Nat) {i : Int32} (h1 : vp_in (i + 1) L) (h2 : vp_in (i + 2) L) (hLA : LA dC dI s hx hm o S M a H locs) (hl : lv_has ls 8 [(0, .ref b), (1, .ref hx), (2, .ref hm), (3, .ref o), (4, .int i)]) {S' : CS} {rc r0 : Int32} {kc ks : Nat} (hc : cq_isLeap nf S (((xs (i + 1).toNatClampNeg).toInt64 <<< ((32 : Int32).toInt64 &&& 63)) ||| ((xs (i + 2).toNatClampNeg).toInt64 &&& 4294967295)) = some (rc, S', kc, ks)) {M' : MS} (hm1 : f_Mo_isLeap nf (((xs (i + 1).toNatClampNeg).toInt64 <<< ((32 : Int32).toInt64 &&& 63)) ||| ((xs (i + 2).toNatClampNeg).toInt64 &&& 4294967295)) M.1 M.2.1 M.2.2.1 M.2.2.2 = some (r0, M')) (he : rc = r0) (hcell : cells + kc ≤ R.cells) (hslot : slots + ks ≤ R.slots)
    (kk : ∀ (H1 : Heap) (locs1 : List Loc) (a1 : Int64) (ls1 : Array Slot), LA dC dI s hx hm o S' M' a1 H1 locs1 → lv_has ls1 8 [(0, .ref b), (1, .ref hx), (2, .ref hm), (3, .ref o), (4, .int i)] → W p l e R s m args below meth c H1 locs1 (cells + kc) (slots + ks) Q (F0 m 2175 ls1 [])) : W p l e R s m args below meth c H locs cells slots Q (F0 m 2118 ls []) := by
  obtain ⟨hx', hb, hr, hml, hown, hts, hlocks, hRf, hRl⟩ := id C0
  obtain ⟨vi, vj, va, vb⟩ := M'
  refine lv_aload_n hx' hb d_LAW_2118 rfl (lv_at hl 1 rfl) ?_
  refine lv_aload_n hx' hb d_LAW_2119 rfl (lv_at hl 0 rfl) ?_
  refine lv_iload hx' hb d_LAW_2120 (lv_at hl 4 rfl) ?_
  refine lv_iconst (v := 1) hx' hb d_LAW_2122 (by decide) ?_
  refine lv_iadd hx' hb d_LAW_2123 ?_
  refine law_ld C0 hLX hLA h1 d_LAW_2124 ?_
  refine lv_i2l hx' hb d_LAW_2125 rfl ?_
  refine lv_bipush (v := 32) hx' hb d_LAW_2126 (by decide) ?_
  refine lv_lshl hx' hb d_LAW_2128 rfl ?_
  refine lv_aload_n hx' hb d_LAW_2129 rfl (lv_at hl 0 rfl) ?_
  refine lv_iload hx' hb d_LAW_2130 (lv_at hl 4 rfl) ?_
  refine lv_iconst (v := 2) hx' hb d_LAW_2132 (by decide) ?_
  refine lv_iadd hx' hb d_LAW_2133 ?_
  refine law_ld C0 hLX hLA h2 d_LAW_2134 ?_
  refine lv_i2l hx' hb d_LAW_2135 rfl ?_
  refine lv_ldc2 (v := 4294967295) hx' hb hown (hts (.constantLong "ZoneFilesLaw" 97 4294967295) m_8_234) d_LAW_2136 ?_
  refine lv_land hx' hb d_LAW_2139 ?_
  refine lv_lor hx' hb d_LAW_2140 ?_
  refine law_C (As := [.long (((xs (i + 1).toNatClampNeg).toInt64 <<< ((32 : Int32).toInt64 &&& 63)) ||| ((xs (i + 2).toNatClampNeg).toInt64 &&& 4294967295))]) (rest := []) C0 hLX hLA (fun ad cA za zad zcA => q_isLeap l dC dI hx ad cA za zad zcA S nf (((xs (i + 1).toNatClampNeg).toInt64 <<< ((32 : Int32).toInt64 &&& 63)) ||| ((xs (i + 2).toNatClampNeg).toInt64 &&& 4294967295)) hc) (cwV 1 hts (gdV m_3_38 m_3_39 m_3_40 m_1_1 m_3_41) rfl rfl rfl (by decide +kernel) ⟨Nat.le_trans (Nat.le_of_ble_eq_true rfl) hRf, Nat.le_trans (Nat.le_of_ble_eq_true rfl) hRl⟩) rfl hl.1 rfl (Nat.le_of_ble_eq_true rfl) d_LAW_2141 ⟨hcell, hslot⟩ rfl (fun H locs hLA => ?_)
  refine lv_aload_n hx' hb d_LAW_2144 rfl (lv_at hl 2 rfl) ?_
  refine lv_aload_n hx' hb d_LAW_2145 rfl (lv_at hl 0 rfl) ?_
  refine lv_iload hx' hb d_LAW_2146 (lv_at hl 4 rfl) ?_
  refine lv_iconst (v := 1) hx' hb d_LAW_2148 (by decide) ?_
  refine lv_iadd hx' hb d_LAW_2149 ?_
  refine law_ld C0 hLX hLA h1 d_LAW_2150 ?_
  refine lv_i2l hx' hb d_LAW_2151 rfl ?_
  refine lv_bipush (v := 32) hx' hb d_LAW_2152 (by decide) ?_
  refine lv_lshl hx' hb d_LAW_2154 rfl ?_
  refine lv_aload_n hx' hb d_LAW_2155 rfl (lv_at hl 0 rfl) ?_
  refine lv_iload hx' hb d_LAW_2156 (lv_at hl 4 rfl) ?_
  refine lv_iconst (v := 2) hx' hb d_LAW_2158 (by decide) ?_
  refine lv_iadd hx' hb d_LAW_2159 ?_
  refine law_ld C0 hLX hLA h2 d_LAW_2160 ?_
  refine lv_i2l hx' hb d_LAW_2161 rfl ?_
  refine lv_ldc2 (v := 4294967295) hx' hb hown (hts (.constantLong "ZoneFilesLaw" 97 4294967295) m_8_234) d_LAW_2162 ?_
  refine lv_land hx' hb d_LAW_2165 ?_
  refine lv_lor hx' hb d_LAW_2166 ?_
  refine law_M (As := [.long (((xs (i + 1).toNatClampNeg).toInt64 <<< ((32 : Int32).toInt64 &&& 63)) ||| ((xs (i + 2).toNatClampNeg).toInt64 &&& 4294967295))]) (rest := [.int rc]) (M' := (vi, vj, va, vb)) C0 hLX hLA (fun r cM => OM.ofMo (fun sz => c_Mo_isLeap l dC dI hm r cM sz nf (((xs (i + 1).toNatClampNeg).toInt64 <<< ((32 : Int32).toInt64 &&& 63)) ||| ((xs (i + 2).toNatClampNeg).toInt64 &&& 4294967295)) M.1 M.2.1 M.2.2.1 M.2.2.2 hm1)) (cwV 1 hts (gdV m_8_222 m_8_223 m_8_224 m_1_10 m_8_225) rfl rfl rfl (by decide +kernel) ⟨Nat.le_trans (Nat.le_of_ble_eq_true rfl) hRf, Nat.le_trans (Nat.le_of_ble_eq_true rfl) hRl⟩) rfl hl.1 rfl (Nat.le_of_ble_eq_true rfl) d_LAW_2167 ⟨hcell, hslot⟩ rfl (fun H locs hLA => ?_)
  refine lv_icmp_eq (tgt := 2175) hx' hb d_LAW_2170 (by decide) (fun _ => ?_) (fun cc => absurd he cc)
  exact kk _ _ _ _ hLA (lv_sub hl [0, 1, 2, 3, 4] rfl)
end
