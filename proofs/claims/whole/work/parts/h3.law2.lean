/-! THE LAW: its blocks -/
set_option maxRecDepth 20000 in
set_option maxHeartbeats 4000000 in
theorem w_law_1935 {g : im_g} {d : Nat} {e : im_E} {M : im_M} {K : im_K} {p4 : Int} (hd : 1 ≤ d) (hP : (g.2 ≤ 2147483647) ∧ (0 ≤ (p4 + 1) ∧ (p4 + 1) < g.2) ∧ (0 ≤ (p4 + 2) ∧ (p4 + 2) < g.2) ∧ (0 ≤ (p4 + 3) ∧ (p4 + 3) < g.2) ∧ (0 ≤ (p4 + 4) ∧ (p4 + 4) < g.2) ∧ im_T g (d - 1) 229 0 [some (.ref 0), some (vL (xlor (xlshl (scr g (p4 + 1)) 32) (xland (scr g (p4 + 2)) 4294967295))), none, some (vL (xlor (xlshl (scr g (p4 + 3)) 32) (xland (scr g (p4 + 4)) 4294967295))), none, some (.ref 7081), none] [] e M (im_ri (fun x9 e7 M6 => ∃ ex8 : im_E, e7 = e ++ ex8 ∧ im_T g (d - 1) 425 0 [some (.ref 6952), some (vL (xlor (xlshl (scr g (p4 + 1)) 32) (xland (scr g (p4 + 2)) 4294967295))), none, some (vL (xlor (xlshl (scr g (p4 + 3)) 32) (xland (scr g (p4 + 4)) 4294967295))), none, none] [] (e ++ ex8) M6 (im_ri (fun x13 e_ M10 => (e ++ ex8) = e_ ∧ im_T g (d - 1) 262 0 [some (.ref 6952)] [] (e ++ ex8) M10 (im_ri (fun x17 e_ M14 => (e ++ ex8) = e_ ∧ (im_i32 x17) ∧ (im_i32 x9) ∧ ((((x17 = x9 → ((x9 = 0 → (im_i32 x13) ∧ ((¬ (M14 7081 0) = x13 → K (.inl (some (vI 0))) (e ++ ex8) M14))))) ∧ (¬ x17 = x9 → K (.inl (some (vI 0))) (e ++ ex8) M14))) ∧ ((((x17 = x9) ∧ (¬ x9 = 0)) ∨ ((x17 = x9) ∧ (x9 = 0) ∧ ((M14 7081 0) = x13))) → im_T g d 452 23 [some (.float 200), some (.ref 0), some (.ref 6952), some (.ref 7081), some (vI (p4 + 6)), none, none, none] [] (e ++ ex8) M14 K))))))))) : im_T g d 452 1935 [some (.float 200), some (.ref 0), some (.ref 6952), some (.ref 7081), some (vI p4), none, none, none] [] e M K := by
  refine im_ld (q := 1936) (i := 1) D452_1935 rfl rfl rfl ?_
  refine im_ld (q := 1937) (i := 0) D452_1936 rfl rfl rfl ?_
  refine im_ld (q := 1939) (i := 4) D452_1937 rfl rfl rfl ?_
  refine im_iconst (q := 1940) D452_1939 ?_
  refine im_iadd (q := 1941) D452_1940 ?_
  obtain ⟨hg1, hP⟩ := hP
  obtain ⟨hg2, hP⟩ := hP
  refine im_scld (q := 1942) D452_1941 hg1 hg2.1 hg2.2 ?_
  refine im_i2l (q := 1943) D452_1942 (scr_r _ _) ?_
  refine im_bipush (q := 1945) D452_1943 rfl ?_
  refine im_lshl (q := 1946) D452_1945 ?_
  refine im_ld (q := 1947) (i := 0) D452_1946 rfl rfl rfl ?_
  refine im_ld (q := 1949) (i := 4) D452_1947 rfl rfl rfl ?_
  refine im_iconst (q := 1950) D452_1949 ?_
  refine im_iadd (q := 1951) D452_1950 ?_
  obtain ⟨hg3, hP⟩ := hP
  refine im_scld (q := 1952) D452_1951 hg1 hg3.1 hg3.2 ?_
  refine im_i2l (q := 1953) D452_1952 (scr_r _ _) ?_
  refine im_ldc2 (q := 1956) (n := 4294967295) D452_1953 rfl ?_
  refine im_land (q := 1957) D452_1956 ?_
  refine im_lor (q := 1958) D452_1957 ?_
  refine im_ld (q := 1959) (i := 0) D452_1958 rfl rfl rfl ?_
  refine im_ld (q := 1961) (i := 4) D452_1959 rfl rfl rfl ?_
  refine im_iconst (q := 1962) D452_1961 ?_
  refine im_iadd (q := 1963) D452_1962 ?_
  obtain ⟨hg4, hP⟩ := hP
  refine im_scld (q := 1964) D452_1963 hg1 hg4.1 hg4.2 ?_
  refine im_i2l (q := 1965) D452_1964 (scr_r _ _) ?_
  refine im_bipush (q := 1967) D452_1965 rfl ?_
  refine im_lshl (q := 1968) D452_1967 ?_
  refine im_ld (q := 1969) (i := 0) D452_1968 rfl rfl rfl ?_
  refine im_ld (q := 1971) (i := 4) D452_1969 rfl rfl rfl ?_
  refine im_iconst (q := 1972) D452_1971 ?_
  refine im_iadd (q := 1973) D452_1972 ?_
  obtain ⟨hg5, hP⟩ := hP
  refine im_scld (q := 1974) D452_1973 hg1 hg5.1 hg5.2 ?_
  refine im_i2l (q := 1975) D452_1974 (scr_r _ _) ?_
  refine im_ldc2 (q := 1978) (n := 4294967295) D452_1975 rfl ?_
  refine im_land (q := 1979) D452_1978 ?_
  refine im_lor (q := 1980) D452_1979 ?_
  refine im_ld (q := 1981) (i := 3) D452_1980 rfl rfl rfl ?_
  refine im_callS (q := 1984) (kd := 0) (y := 229) (n := 4) (z := 0) (vs := [.ref 0, vL (xlor (xlshl (scr g (p4 + 1)) 32) (xland (scr g (p4 + 2)) 4294967295)), vL (xlor (xlshl (scr g (p4 + 3)) 32) (xland (scr g (p4 + 4)) 4294967295)), .ref 7081]) (r := []) (L2 := [some (.ref 0), some (vL (xlor (xlshl (scr g (p4 + 1)) 32) (xland (scr g (p4 + 2)) 4294967295))), none, some (vL (xlor (xlshl (scr g (p4 + 3)) 32) (xland (scr g (p4 + 4)) 4294967295))), none, some (.ref 7081), none]) D452_1981 rfl (im_cal cn_452 cl_13_226) (Or.inl rfl) rfl rfl rfl rfl rfl hd ⟨rfl, rfl, rfl, rfl, trivial⟩ ?_
  refine hP.mono ?_
  rintro _ e7 M6 ⟨x9, rfl, ex8, rfl, hP⟩
  refine im_bkS ?_
  refine im_st1 (q := 1986) (i := 5) (L' := [some (.float 200), some (.ref 0), some (.ref 6952), some (.ref 7081), some (vI p4), some (vI x9), none, none]) D452_1984 (Or.inr rfl) (Nat.le_of_ble_eq_true rfl) rfl ?_
  refine im_ld (q := 1987) (i := 2) D452_1986 rfl rfl rfl ?_
  refine im_ld (q := 1988) (i := 0) D452_1987 rfl rfl rfl ?_
  refine im_ld (q := 1990) (i := 4) D452_1988 rfl rfl rfl ?_
  refine im_iconst (q := 1991) D452_1990 ?_
  refine im_iadd (q := 1992) D452_1991 ?_
  refine im_scld (q := 1993) D452_1992 hg1 hg2.1 hg2.2 ?_
  refine im_i2l (q := 1994) D452_1993 (scr_r _ _) ?_
  refine im_bipush (q := 1996) D452_1994 rfl ?_
  refine im_lshl (q := 1997) D452_1996 ?_
  refine im_ld (q := 1998) (i := 0) D452_1997 rfl rfl rfl ?_
  refine im_ld (q := 2000) (i := 4) D452_1998 rfl rfl rfl ?_
  refine im_iconst (q := 2001) D452_2000 ?_
  refine im_iadd (q := 2002) D452_2001 ?_
  refine im_scld (q := 2003) D452_2002 hg1 hg3.1 hg3.2 ?_
  refine im_i2l (q := 2004) D452_2003 (scr_r _ _) ?_
  refine im_ldc2 (q := 2007) (n := 4294967295) D452_2004 rfl ?_
  refine im_land (q := 2008) D452_2007 ?_
  refine im_lor (q := 2009) D452_2008 ?_
  refine im_ld (q := 2010) (i := 0) D452_2009 rfl rfl rfl ?_
  refine im_ld (q := 2012) (i := 4) D452_2010 rfl rfl rfl ?_
  refine im_iconst (q := 2013) D452_2012 ?_
  refine im_iadd (q := 2014) D452_2013 ?_
  refine im_scld (q := 2015) D452_2014 hg1 hg4.1 hg4.2 ?_
  refine im_i2l (q := 2016) D452_2015 (scr_r _ _) ?_
  refine im_bipush (q := 2018) D452_2016 rfl ?_
  refine im_lshl (q := 2019) D452_2018 ?_
  refine im_ld (q := 2020) (i := 0) D452_2019 rfl rfl rfl ?_
  refine im_ld (q := 2022) (i := 4) D452_2020 rfl rfl rfl ?_
  refine im_iconst (q := 2023) D452_2022 ?_
  refine im_iadd (q := 2024) D452_2023 ?_
  refine im_scld (q := 2025) D452_2024 hg1 hg5.1 hg5.2 ?_
  refine im_i2l (q := 2026) D452_2025 (scr_r _ _) ?_
  refine im_ldc2 (q := 2029) (n := 4294967295) D452_2026 rfl ?_
  refine im_land (q := 2030) D452_2029 ?_
  refine im_lor (q := 2031) D452_2030 ?_
  refine im_callV (q := 2034) (kd := 1) (y := 425) (n := 2) (ci := 12) (a := 6952) (vs := [.ref 6952, vL (xlor (xlshl (scr g (p4 + 1)) 32) (xland (scr g (p4 + 2)) 4294967295)), vL (xlor (xlshl (scr g (p4 + 3)) 32) (xland (scr g (p4 + 4)) 4294967295))]) (r := []) (L2 := [some (.ref 6952), some (vL (xlor (xlshl (scr g (p4 + 1)) 32) (xland (scr g (p4 + 2)) 4294967295))), none, some (vL (xlor (xlshl (scr g (p4 + 3)) 32) (xland (scr g (p4 + 4)) 4294967295))), none, none]) D452_2031 (im_cal cn_452 cl_13_228) (Or.inl rfl) rfl sf_6952 rfl rfl rfl rfl hd ⟨rfl, rfl, rfl, trivial⟩ ?_
  refine hP.mono ?_
  rintro _ e11 M10 ⟨x13, rfl, rfl, hP⟩
  refine im_bkS ?_
  refine im_st1 (q := 2036) (i := 6) (L' := [some (.float 200), some (.ref 0), some (.ref 6952), some (.ref 7081), some (vI p4), some (vI x9), some (vI x13), none]) D452_2034 (Or.inr rfl) (Nat.le_of_ble_eq_true rfl) rfl ?_
  refine im_ld (q := 2037) (i := 2) D452_2036 rfl rfl rfl ?_
  refine im_callV (q := 2040) (kd := 1) (y := 262) (n := 0) (ci := 12) (a := 6952) (vs := [.ref 6952]) (r := []) (L2 := [some (.ref 6952)]) D452_2037 (im_cal cn_452 cl_13_140) (Or.inl rfl) rfl sf_6952 rfl rfl rfl rfl hd ⟨rfl, trivial⟩ ?_
  refine hP.mono ?_
  rintro _ e15 M14 ⟨x17, rfl, rfl, hP⟩
  refine im_bkS ?_
  refine im_ld (q := 2042) (i := 5) D452_2040 rfl rfl rfl ?_
  obtain ⟨hg18, hP⟩ := hP
  obtain ⟨hg19, hP⟩ := hP
  obtain ⟨hP, hJ25⟩ := hP
  have kJ26 : (((x17 = x9) ∧ (¬ x9 = 0)) ∨ ((x17 = x9) ∧ (x9 = 0) ∧ ((M14 7081 0) = x13))) → im_T g d 452 2064 [some (.float 200), some (.ref 0), some (.ref 6952), some (.ref 7081), some (vI p4), none, none, none] [] (e ++ ex8) M14 K := by
    intro  hx27
    have hP := hJ25  hx27
    refine im_goto (q := 2067) (t := 2616) D452_2064 rfl ?_
    refine im_iinc (q := 2619) (i := 4) (L' := [some (.float 200), some (.ref 0), some (.ref 6952), some (.ref 7081), some (vI (p4 + 6)), none, none, none]) D452_2616 rfl (Nat.le_of_ble_eq_true rfl) rfl ?_
    refine im_goto (q := 2622) (t := 23) D452_2619 rfl ?_
    exact hP.wk ⟨rfl, rfl, rfl, rfl, rfl, trivial⟩
  refine im_icmp (q := 2045) (t := 2047) D452_2042 rfl hg18 hg19 (fun hc20 => ?_) (fun hc20 => ?_)
  · replace hP := hP.1 hc20
    refine im_ld (q := 2049) (i := 5) D452_2047 rfl rfl rfl ?_
    refine im_ifc (q := 2052) (t := 2064) D452_2049 rfl hg19 (fun hc21 => ?_) (fun hc21 => ?_)
    · exact (kJ26  (Or.inl ⟨hc20, hc21⟩)).wk ⟨rfl, rfl, rfl, rfl, rfl, trivial⟩
    · replace hP := hP (Decidable.not_not.mp hc21)
      refine im_ld (q := 2053) (i := 3) D452_2052 rfl rfl rfl ?_
      refine im_iconst (q := 2054) D452_2053 ?_
      refine im_rng (j := 0) sf_7081 (by decide) (by decide) (fun hr22 => ?_)
      refine im_lald (q := 2055) D452_2054 sf_7081 (by decide) (by decide) (by decide) rfl ?_
      refine im_ld (q := 2057) (i := 6) D452_2055 rfl rfl rfl ?_
      obtain ⟨hg23, hP⟩ := hP
      refine im_i2l (q := 2058) D452_2057 hg23 ?_
      refine im_lif (q := 2059) (q2 := 2062) (t := 2064) D452_2058 D452_2059 rfl hr22 (im_32_64 hg23) (fun hc24 => ?_) (fun hc24 => ?_)
      · exact (kJ26  (Or.inr ⟨hc20, (Decidable.not_not.mp hc21), hc24⟩)).wk ⟨rfl, rfl, rfl, rfl, rfl, trivial⟩
      · replace hP := hP hc24
        refine im_iconst (q := 2063) D452_2062 ?_
        exact im_zret (q := 2064) D452_2063 rfl (by decide) hP
  · replace hP := hP.2 hc20
    refine im_iconst (q := 2046) D452_2045 ?_
    exact im_zret (q := 2047) D452_2046 rfl (by decide) hP
set_option maxRecDepth 20000 in
set_option maxHeartbeats 4000000 in
theorem w_law_2067 {g : im_g} {d : Nat} {e : im_E} {M : im_M} {K : im_K} {p4 : Int} (hd : 1 ≤ d) (hP : (g.2 ≤ 2147483647) ∧ (0 ≤ (p4 + 1) ∧ (p4 + 1) < g.2) ∧ (0 ≤ (p4 + 2) ∧ (p4 + 2) < g.2) ∧ (0 ≤ (p4 + 3) ∧ (p4 + 3) < g.2) ∧ im_T g (d - 1) 231 0 [some (.ref 0), some (vL (xlor (xlshl (scr g (p4 + 1)) 32) (xland (scr g (p4 + 2)) 4294967295))), none, some (vI (scr g (p4 + 3))), some (.ref 7081), none] [] e M (im_ri (fun x8 e6 M5 => ∃ ex7 : im_E, e6 = e ++ ex7 ∧ im_T g (d - 1) 426 0 [some (.ref 6952), some (vL (xlor (xlshl (scr g (p4 + 1)) 32) (xland (scr g (p4 + 2)) 4294967295))), none, some (vI (scr g (p4 + 3))), none, none, none] [] (e ++ ex7) M5 (im_ri (fun x12 e_ M9 => (e ++ ex7) = e_ ∧ im_T g (d - 1) 262 0 [some (.ref 6952)] [] (e ++ ex7) M9 (im_ri (fun x16 e_ M13 => (e ++ ex7) = e_ ∧ (im_i32 x16) ∧ (im_i32 x8) ∧ ((((x16 = x8 → ((x8 = 0 → (im_i32 x12) ∧ ((¬ (M13 7081 0) = x12 → K (.inl (some (vI 0))) (e ++ ex7) M13))))) ∧ (¬ x16 = x8 → K (.inl (some (vI 0))) (e ++ ex7) M13))) ∧ ((((x16 = x8) ∧ (¬ x8 = 0)) ∨ ((x16 = x8) ∧ (x8 = 0) ∧ ((M13 7081 0) = x12))) → im_T g d 452 23 [some (.float 200), some (.ref 0), some (.ref 6952), some (.ref 7081), some (vI (p4 + 6)), none, none, none] [] (e ++ ex7) M13 K))))))))) : im_T g d 452 2067 [some (.float 200), some (.ref 0), some (.ref 6952), some (.ref 7081), some (vI p4), none, none, none] [] e M K := by
  refine im_ld (q := 2068) (i := 1) D452_2067 rfl rfl rfl ?_
  refine im_ld (q := 2069) (i := 0) D452_2068 rfl rfl rfl ?_
  refine im_ld (q := 2071) (i := 4) D452_2069 rfl rfl rfl ?_
  refine im_iconst (q := 2072) D452_2071 ?_
  refine im_iadd (q := 2073) D452_2072 ?_
  obtain ⟨hg1, hP⟩ := hP
  obtain ⟨hg2, hP⟩ := hP
  refine im_scld (q := 2074) D452_2073 hg1 hg2.1 hg2.2 ?_
  refine im_i2l (q := 2075) D452_2074 (scr_r _ _) ?_
  refine im_bipush (q := 2077) D452_2075 rfl ?_
  refine im_lshl (q := 2078) D452_2077 ?_
  refine im_ld (q := 2079) (i := 0) D452_2078 rfl rfl rfl ?_
  refine im_ld (q := 2081) (i := 4) D452_2079 rfl rfl rfl ?_
  refine im_iconst (q := 2082) D452_2081 ?_
  refine im_iadd (q := 2083) D452_2082 ?_
  obtain ⟨hg3, hP⟩ := hP
  refine im_scld (q := 2084) D452_2083 hg1 hg3.1 hg3.2 ?_
  refine im_i2l (q := 2085) D452_2084 (scr_r _ _) ?_
  refine im_ldc2 (q := 2088) (n := 4294967295) D452_2085 rfl ?_
  refine im_land (q := 2089) D452_2088 ?_
  refine im_lor (q := 2090) D452_2089 ?_
  refine im_ld (q := 2091) (i := 0) D452_2090 rfl rfl rfl ?_
  refine im_ld (q := 2093) (i := 4) D452_2091 rfl rfl rfl ?_
  refine im_iconst (q := 2094) D452_2093 ?_
  refine im_iadd (q := 2095) D452_2094 ?_
  obtain ⟨hg4, hP⟩ := hP
  refine im_scld (q := 2096) D452_2095 hg1 hg4.1 hg4.2 ?_
  refine im_ld (q := 2097) (i := 3) D452_2096 rfl rfl rfl ?_
  refine im_callS (q := 2100) (kd := 0) (y := 231) (n := 4) (z := 0) (vs := [.ref 0, vL (xlor (xlshl (scr g (p4 + 1)) 32) (xland (scr g (p4 + 2)) 4294967295)), vI (scr g (p4 + 3)), .ref 7081]) (r := []) (L2 := [some (.ref 0), some (vL (xlor (xlshl (scr g (p4 + 1)) 32) (xland (scr g (p4 + 2)) 4294967295))), none, some (vI (scr g (p4 + 3))), some (.ref 7081), none]) D452_2097 rfl (im_cal cn_452 cl_13_229) (Or.inl rfl) rfl rfl rfl rfl rfl hd ⟨rfl, rfl, rfl, rfl, trivial⟩ ?_
  refine hP.mono ?_
  rintro _ e6 M5 ⟨x8, rfl, ex7, rfl, hP⟩
  refine im_bkS ?_
  refine im_st1 (q := 2102) (i := 5) (L' := [some (.float 200), some (.ref 0), some (.ref 6952), some (.ref 7081), some (vI p4), some (vI x8), none, none]) D452_2100 (Or.inr rfl) (Nat.le_of_ble_eq_true rfl) rfl ?_
  refine im_ld (q := 2103) (i := 2) D452_2102 rfl rfl rfl ?_
  refine im_ld (q := 2104) (i := 0) D452_2103 rfl rfl rfl ?_
  refine im_ld (q := 2106) (i := 4) D452_2104 rfl rfl rfl ?_
  refine im_iconst (q := 2107) D452_2106 ?_
  refine im_iadd (q := 2108) D452_2107 ?_
  refine im_scld (q := 2109) D452_2108 hg1 hg2.1 hg2.2 ?_
  refine im_i2l (q := 2110) D452_2109 (scr_r _ _) ?_
  refine im_bipush (q := 2112) D452_2110 rfl ?_
  refine im_lshl (q := 2113) D452_2112 ?_
  refine im_ld (q := 2114) (i := 0) D452_2113 rfl rfl rfl ?_
  refine im_ld (q := 2116) (i := 4) D452_2114 rfl rfl rfl ?_
  refine im_iconst (q := 2117) D452_2116 ?_
  refine im_iadd (q := 2118) D452_2117 ?_
  refine im_scld (q := 2119) D452_2118 hg1 hg3.1 hg3.2 ?_
  refine im_i2l (q := 2120) D452_2119 (scr_r _ _) ?_
  refine im_ldc2 (q := 2123) (n := 4294967295) D452_2120 rfl ?_
  refine im_land (q := 2124) D452_2123 ?_
  refine im_lor (q := 2125) D452_2124 ?_
  refine im_ld (q := 2126) (i := 0) D452_2125 rfl rfl rfl ?_
  refine im_ld (q := 2128) (i := 4) D452_2126 rfl rfl rfl ?_
  refine im_iconst (q := 2129) D452_2128 ?_
  refine im_iadd (q := 2130) D452_2129 ?_
  refine im_scld (q := 2131) D452_2130 hg1 hg4.1 hg4.2 ?_
  refine im_callV (q := 2134) (kd := 1) (y := 426) (n := 2) (ci := 12) (a := 6952) (vs := [.ref 6952, vL (xlor (xlshl (scr g (p4 + 1)) 32) (xland (scr g (p4 + 2)) 4294967295)), vI (scr g (p4 + 3))]) (r := []) (L2 := [some (.ref 6952), some (vL (xlor (xlshl (scr g (p4 + 1)) 32) (xland (scr g (p4 + 2)) 4294967295))), none, some (vI (scr g (p4 + 3))), none, none, none]) D452_2131 (im_cal cn_452 cl_13_232) (Or.inl rfl) rfl sf_6952 rfl rfl rfl rfl hd ⟨rfl, rfl, rfl, trivial⟩ ?_
  refine hP.mono ?_
  rintro _ e10 M9 ⟨x12, rfl, rfl, hP⟩
  refine im_bkS ?_
  refine im_st1 (q := 2136) (i := 6) (L' := [some (.float 200), some (.ref 0), some (.ref 6952), some (.ref 7081), some (vI p4), some (vI x8), some (vI x12), none]) D452_2134 (Or.inr rfl) (Nat.le_of_ble_eq_true rfl) rfl ?_
  refine im_ld (q := 2137) (i := 2) D452_2136 rfl rfl rfl ?_
  refine im_callV (q := 2140) (kd := 1) (y := 262) (n := 0) (ci := 12) (a := 6952) (vs := [.ref 6952]) (r := []) (L2 := [some (.ref 6952)]) D452_2137 (im_cal cn_452 cl_13_140) (Or.inl rfl) rfl sf_6952 rfl rfl rfl rfl hd ⟨rfl, trivial⟩ ?_
  refine hP.mono ?_
  rintro _ e14 M13 ⟨x16, rfl, rfl, hP⟩
  refine im_bkS ?_
  refine im_ld (q := 2142) (i := 5) D452_2140 rfl rfl rfl ?_
  obtain ⟨hg17, hP⟩ := hP
  obtain ⟨hg18, hP⟩ := hP
  obtain ⟨hP, hJ24⟩ := hP
  have kJ25 : (((x16 = x8) ∧ (¬ x8 = 0)) ∨ ((x16 = x8) ∧ (x8 = 0) ∧ ((M13 7081 0) = x12))) → im_T g d 452 2164 [some (.float 200), some (.ref 0), some (.ref 6952), some (.ref 7081), some (vI p4), none, none, none] [] (e ++ ex7) M13 K := by
    intro  hx26
    have hP := hJ24  hx26
    refine im_goto (q := 2167) (t := 2616) D452_2164 rfl ?_
    refine im_iinc (q := 2619) (i := 4) (L' := [some (.float 200), some (.ref 0), some (.ref 6952), some (.ref 7081), some (vI (p4 + 6)), none, none, none]) D452_2616 rfl (Nat.le_of_ble_eq_true rfl) rfl ?_
    refine im_goto (q := 2622) (t := 23) D452_2619 rfl ?_
    exact hP.wk ⟨rfl, rfl, rfl, rfl, rfl, trivial⟩
  refine im_icmp (q := 2145) (t := 2147) D452_2142 rfl hg17 hg18 (fun hc19 => ?_) (fun hc19 => ?_)
  · replace hP := hP.1 hc19
    refine im_ld (q := 2149) (i := 5) D452_2147 rfl rfl rfl ?_
    refine im_ifc (q := 2152) (t := 2164) D452_2149 rfl hg18 (fun hc20 => ?_) (fun hc20 => ?_)
    · exact (kJ25  (Or.inl ⟨hc19, hc20⟩)).wk ⟨rfl, rfl, rfl, rfl, rfl, trivial⟩
    · replace hP := hP (Decidable.not_not.mp hc20)
      refine im_ld (q := 2153) (i := 3) D452_2152 rfl rfl rfl ?_
      refine im_iconst (q := 2154) D452_2153 ?_
      refine im_rng (j := 0) sf_7081 (by decide) (by decide) (fun hr21 => ?_)
      refine im_lald (q := 2155) D452_2154 sf_7081 (by decide) (by decide) (by decide) rfl ?_
      refine im_ld (q := 2157) (i := 6) D452_2155 rfl rfl rfl ?_
      obtain ⟨hg22, hP⟩ := hP
      refine im_i2l (q := 2158) D452_2157 hg22 ?_
      refine im_lif (q := 2159) (q2 := 2162) (t := 2164) D452_2158 D452_2159 rfl hr21 (im_32_64 hg22) (fun hc23 => ?_) (fun hc23 => ?_)
      · exact (kJ25  (Or.inr ⟨hc19, (Decidable.not_not.mp hc20), hc23⟩)).wk ⟨rfl, rfl, rfl, rfl, rfl, trivial⟩
      · replace hP := hP hc23
        refine im_iconst (q := 2163) D452_2162 ?_
        exact im_zret (q := 2164) D452_2163 rfl (by decide) hP
  · replace hP := hP.2 hc19
    refine im_iconst (q := 2146) D452_2145 ?_
    exact im_zret (q := 2147) D452_2146 rfl (by decide) hP
set_option maxRecDepth 20000 in
set_option maxHeartbeats 4000000 in
theorem w_law_2167 {g : im_g} {d : Nat} {e : im_E} {M : im_M} {K : im_K} {p4 : Int} (hd : 1 ≤ d) (hP : im_T g (d - 1) 234 0 [some (.ref 0), some (.ref 7081), none] [] e M (im_ri (fun x4 e2 M1 => ∃ ex3 : im_E, e2 = e ++ ex3 ∧ im_T g (d - 1) 427 0 [some (.ref 6952)] [] (e ++ ex3) M1 (im_ri (fun x8 e_ M5 => (e ++ ex3) = e_ ∧ im_T g (d - 1) 262 0 [some (.ref 6952)] [] (e ++ ex3) M5 (im_ri (fun x12 e_ M9 => (e ++ ex3) = e_ ∧ (im_i32 x12) ∧ (im_i32 x4) ∧ ((((x12 = x4 → ((x4 = 0 → (im_i32 x8) ∧ ((¬ (M9 7081 0) = x8 → K (.inl (some (vI 0))) (e ++ ex3) M9))))) ∧ (¬ x12 = x4 → K (.inl (some (vI 0))) (e ++ ex3) M9))) ∧ ((((x12 = x4) ∧ (¬ x4 = 0)) ∨ ((x12 = x4) ∧ (x4 = 0) ∧ ((M9 7081 0) = x8))) → im_T g d 452 23 [some (.float 200), some (.ref 0), some (.ref 6952), some (.ref 7081), some (vI (p4 + 6)), none, none, none] [] (e ++ ex3) M9 K))))))))) : im_T g d 452 2167 [some (.float 200), some (.ref 0), some (.ref 6952), some (.ref 7081), some (vI p4), none, none, none] [] e M K := by
  refine im_ld (q := 2168) (i := 1) D452_2167 rfl rfl rfl ?_
  refine im_ld (q := 2169) (i := 3) D452_2168 rfl rfl rfl ?_
  refine im_callS (q := 2172) (kd := 0) (y := 234) (n := 2) (z := 0) (vs := [.ref 0, .ref 7081]) (r := []) (L2 := [some (.ref 0), some (.ref 7081), none]) D452_2169 rfl (im_cal cn_452 cl_13_233) (Or.inl rfl) rfl rfl rfl rfl rfl hd ⟨rfl, rfl, trivial⟩ ?_
  refine hP.mono ?_
  rintro _ e2 M1 ⟨x4, rfl, ex3, rfl, hP⟩
  refine im_bkS ?_
  refine im_st1 (q := 2174) (i := 5) (L' := [some (.float 200), some (.ref 0), some (.ref 6952), some (.ref 7081), some (vI p4), some (vI x4), none, none]) D452_2172 (Or.inr rfl) (Nat.le_of_ble_eq_true rfl) rfl ?_
  refine im_ld (q := 2175) (i := 2) D452_2174 rfl rfl rfl ?_
  refine im_callV (q := 2178) (kd := 1) (y := 427) (n := 0) (ci := 12) (a := 6952) (vs := [.ref 6952]) (r := []) (L2 := [some (.ref 6952)]) D452_2175 (im_cal cn_452 cl_13_235) (Or.inl rfl) rfl sf_6952 rfl rfl rfl rfl hd ⟨rfl, trivial⟩ ?_
  refine hP.mono ?_
  rintro _ e6 M5 ⟨x8, rfl, rfl, hP⟩
  refine im_bkS ?_
  refine im_st1 (q := 2180) (i := 6) (L' := [some (.float 200), some (.ref 0), some (.ref 6952), some (.ref 7081), some (vI p4), some (vI x4), some (vI x8), none]) D452_2178 (Or.inr rfl) (Nat.le_of_ble_eq_true rfl) rfl ?_
  refine im_ld (q := 2181) (i := 2) D452_2180 rfl rfl rfl ?_
  refine im_callV (q := 2184) (kd := 1) (y := 262) (n := 0) (ci := 12) (a := 6952) (vs := [.ref 6952]) (r := []) (L2 := [some (.ref 6952)]) D452_2181 (im_cal cn_452 cl_13_140) (Or.inl rfl) rfl sf_6952 rfl rfl rfl rfl hd ⟨rfl, trivial⟩ ?_
  refine hP.mono ?_
  rintro _ e10 M9 ⟨x12, rfl, rfl, hP⟩
  refine im_bkS ?_
  refine im_ld (q := 2186) (i := 5) D452_2184 rfl rfl rfl ?_
  obtain ⟨hg13, hP⟩ := hP
  obtain ⟨hg14, hP⟩ := hP
  obtain ⟨hP, hJ20⟩ := hP
  have kJ21 : (((x12 = x4) ∧ (¬ x4 = 0)) ∨ ((x12 = x4) ∧ (x4 = 0) ∧ ((M9 7081 0) = x8))) → im_T g d 452 2208 [some (.float 200), some (.ref 0), some (.ref 6952), some (.ref 7081), some (vI p4), none, none, none] [] (e ++ ex3) M9 K := by
    intro  hx22
    have hP := hJ20  hx22
    refine im_goto (q := 2211) (t := 2616) D452_2208 rfl ?_
    refine im_iinc (q := 2619) (i := 4) (L' := [some (.float 200), some (.ref 0), some (.ref 6952), some (.ref 7081), some (vI (p4 + 6)), none, none, none]) D452_2616 rfl (Nat.le_of_ble_eq_true rfl) rfl ?_
    refine im_goto (q := 2622) (t := 23) D452_2619 rfl ?_
    exact hP.wk ⟨rfl, rfl, rfl, rfl, rfl, trivial⟩
  refine im_icmp (q := 2189) (t := 2191) D452_2186 rfl hg13 hg14 (fun hc15 => ?_) (fun hc15 => ?_)
  · replace hP := hP.1 hc15
    refine im_ld (q := 2193) (i := 5) D452_2191 rfl rfl rfl ?_
    refine im_ifc (q := 2196) (t := 2208) D452_2193 rfl hg14 (fun hc16 => ?_) (fun hc16 => ?_)
    · exact (kJ21  (Or.inl ⟨hc15, hc16⟩)).wk ⟨rfl, rfl, rfl, rfl, rfl, trivial⟩
    · replace hP := hP (Decidable.not_not.mp hc16)
      refine im_ld (q := 2197) (i := 3) D452_2196 rfl rfl rfl ?_
      refine im_iconst (q := 2198) D452_2197 ?_
      refine im_rng (j := 0) sf_7081 (by decide) (by decide) (fun hr17 => ?_)
      refine im_lald (q := 2199) D452_2198 sf_7081 (by decide) (by decide) (by decide) rfl ?_
      refine im_ld (q := 2201) (i := 6) D452_2199 rfl rfl rfl ?_
      obtain ⟨hg18, hP⟩ := hP
      refine im_i2l (q := 2202) D452_2201 hg18 ?_
      refine im_lif (q := 2203) (q2 := 2206) (t := 2208) D452_2202 D452_2203 rfl hr17 (im_32_64 hg18) (fun hc19 => ?_) (fun hc19 => ?_)
      · exact (kJ21  (Or.inr ⟨hc15, (Decidable.not_not.mp hc16), hc19⟩)).wk ⟨rfl, rfl, rfl, rfl, rfl, trivial⟩
      · replace hP := hP hc19
        refine im_iconst (q := 2207) D452_2206 ?_
        exact im_zret (q := 2208) D452_2207 rfl (by decide) hP
  · replace hP := hP.2 hc15
    refine im_iconst (q := 2190) D452_2189 ?_
    exact im_zret (q := 2191) D452_2190 rfl (by decide) hP
set_option maxRecDepth 20000 in
set_option maxHeartbeats 4000000 in
theorem w_law_2211 {g : im_g} {d : Nat} {e : im_E} {M : im_M} {K : im_K} {p4 : Int} (hd : 1 ≤ d) (hP : (g.2 ≤ 2147483647) ∧ (0 ≤ (p4 + 1) ∧ (p4 + 1) < g.2) ∧ (0 ≤ (p4 + 2) ∧ (p4 + 2) < g.2) ∧ ((∀ x5 : Int, ((((scr g (p4 + 2)) = 0) ∧ x5 = 0) ∨ ((¬ (scr g (p4 + 2)) = 0) ∧ x5 = 1)) → (0 ≤ (p4 + 3) ∧ (p4 + 3) < g.2) ∧ (0 ≤ (p4 + 4) ∧ (p4 + 4) < g.2) ∧ im_T g (d - 1) 236 0 [some (.ref 0), some (vI (scr g (p4 + 1))), some (vI x5), some (vI (scr g (p4 + 3))), some (vI (scr g (p4 + 4))), some (.ref 7081), none] [] e M (im_ri (fun x14 e12 M11 => ∃ ex13 : im_E, e12 = e ++ ex13 ∧ ((∀ x16 : Int, ((((scr g (p4 + 2)) = 0) ∧ x16 = 0) ∨ ((¬ (scr g (p4 + 2)) = 0) ∧ x16 = 1)) → im_T g (d - 1) 428 0 [some (.ref 6952), some (vI (scr g (p4 + 1))), some (vI x16), some (vI (scr g (p4 + 3))), some (vI (scr g (p4 + 4))), none, none] [] (e ++ ex13) M11 (im_ri (fun x23 e_ M20 => (e ++ ex13) = e_ ∧ im_T g (d - 1) 262 0 [some (.ref 6952)] [] (e ++ ex13) M20 (im_ri (fun x27 e_ M24 => (e ++ ex13) = e_ ∧ (im_i32 x27) ∧ (im_i32 x14) ∧ ((((x27 = x14 → ((x14 = 0 → (im_i32 x23) ∧ ((¬ (M24 7081 0) = x23 → K (.inl (some (vI 0))) (e ++ ex13) M24))))) ∧ (¬ x27 = x14 → K (.inl (some (vI 0))) (e ++ ex13) M24))) ∧ ((((x27 = x14) ∧ (¬ x14 = 0)) ∨ ((x27 = x14) ∧ (x14 = 0) ∧ ((M24 7081 0) = x23))) → im_T g d 452 23 [some (.float 200), some (.ref 0), some (.ref 6952), some (.ref 7081), some (vI (p4 + 6)), none, none, none] [] (e ++ ex13) M24 K))))))))))))) : im_T g d 452 2211 [some (.float 200), some (.ref 0), some (.ref 6952), some (.ref 7081), some (vI p4), none, none, none] [] e M K := by
  refine im_ld (q := 2212) (i := 1) D452_2211 rfl rfl rfl ?_
  refine im_ld (q := 2213) (i := 0) D452_2212 rfl rfl rfl ?_
  refine im_ld (q := 2215) (i := 4) D452_2213 rfl rfl rfl ?_
  refine im_iconst (q := 2216) D452_2215 ?_
  refine im_iadd (q := 2217) D452_2216 ?_
  obtain ⟨hg1, hP⟩ := hP
  obtain ⟨hg2, hP⟩ := hP
  refine im_scld (q := 2218) D452_2217 hg1 hg2.1 hg2.2 ?_
  refine im_ld (q := 2219) (i := 0) D452_2218 rfl rfl rfl ?_
  refine im_ld (q := 2221) (i := 4) D452_2219 rfl rfl rfl ?_
  refine im_iconst (q := 2222) D452_2221 ?_
  refine im_iadd (q := 2223) D452_2222 ?_
  obtain ⟨hg3, hP⟩ := hP
  refine im_scld (q := 2224) D452_2223 hg1 hg3.1 hg3.2 ?_
  have hJ6 := hP
  have kJ7 : ∀ x5 : Int, ((((scr g (p4 + 2)) = 0) ∧ x5 = 0) ∨ ((¬ (scr g (p4 + 2)) = 0) ∧ x5 = 1)) → im_T g d 452 2232 [some (.float 200), some (.ref 0), some (.ref 6952), some (.ref 7081), some (vI p4), none, none, none] [vI x5, vI (scr g (p4 + 1)), .ref 0] e M K := by
    intro x5 hx8
    have hP := hJ6 x5 hx8
    refine im_ld (q := 2233) (i := 0) D452_2232 rfl rfl rfl ?_
    refine im_ld (q := 2235) (i := 4) D452_2233 rfl rfl rfl ?_
    refine im_iconst (q := 2236) D452_2235 ?_
    refine im_iadd (q := 2237) D452_2236 ?_
    obtain ⟨hg9, hP⟩ := hP
    refine im_scld (q := 2238) D452_2237 hg1 hg9.1 hg9.2 ?_
    refine im_ld (q := 2239) (i := 0) D452_2238 rfl rfl rfl ?_
    refine im_ld (q := 2241) (i := 4) D452_2239 rfl rfl rfl ?_
    refine im_iconst (q := 2242) D452_2241 ?_
    refine im_iadd (q := 2243) D452_2242 ?_
    obtain ⟨hg10, hP⟩ := hP
    refine im_scld (q := 2244) D452_2243 hg1 hg10.1 hg10.2 ?_
    refine im_ld (q := 2245) (i := 3) D452_2244 rfl rfl rfl ?_
    refine im_callS (q := 2248) (kd := 0) (y := 236) (n := 6) (z := 0) (vs := [.ref 0, vI (scr g (p4 + 1)), vI x5, vI (scr g (p4 + 3)), vI (scr g (p4 + 4)), .ref 7081]) (r := []) (L2 := [some (.ref 0), some (vI (scr g (p4 + 1))), some (vI x5), some (vI (scr g (p4 + 3))), some (vI (scr g (p4 + 4))), some (.ref 7081), none]) D452_2245 rfl (im_cal cn_452 cl_13_236) (Or.inl rfl) rfl rfl rfl rfl rfl hd ⟨rfl, rfl, rfl, rfl, rfl, rfl, trivial⟩ ?_
    refine hP.mono ?_
    rintro _ e12 M11 ⟨x14, rfl, ex13, rfl, hP⟩
    refine im_bkS ?_
    refine im_st1 (q := 2250) (i := 5) (L' := [some (.float 200), some (.ref 0), some (.ref 6952), some (.ref 7081), some (vI p4), some (vI x14), none, none]) D452_2248 (Or.inr rfl) (Nat.le_of_ble_eq_true rfl) rfl ?_
    refine im_ld (q := 2251) (i := 2) D452_2250 rfl rfl rfl ?_
    refine im_ld (q := 2252) (i := 0) D452_2251 rfl rfl rfl ?_
    refine im_ld (q := 2254) (i := 4) D452_2252 rfl rfl rfl ?_
    refine im_iconst (q := 2255) D452_2254 ?_
    refine im_iadd (q := 2256) D452_2255 ?_
    refine im_scld (q := 2257) D452_2256 hg1 hg2.1 hg2.2 ?_
    refine im_ld (q := 2258) (i := 0) D452_2257 rfl rfl rfl ?_
    refine im_ld (q := 2260) (i := 4) D452_2258 rfl rfl rfl ?_
    refine im_iconst (q := 2261) D452_2260 ?_
    refine im_iadd (q := 2262) D452_2261 ?_
    refine im_scld (q := 2263) D452_2262 hg1 hg3.1 hg3.2 ?_
    have hJ17 := hP
    have kJ18 : ∀ x16 : Int, ((((scr g (p4 + 2)) = 0) ∧ x16 = 0) ∨ ((¬ (scr g (p4 + 2)) = 0) ∧ x16 = 1)) → im_T g d 452 2271 [some (.float 200), some (.ref 0), some (.ref 6952), some (.ref 7081), some (vI p4), some (vI x14), none, none] [vI x16, vI (scr g (p4 + 1)), .ref 6952] (e ++ ex13) M11 K := by
      intro x16 hx19
      have hP := hJ17 x16 hx19
      refine im_ld (q := 2272) (i := 0) D452_2271 rfl rfl rfl ?_
      refine im_ld (q := 2274) (i := 4) D452_2272 rfl rfl rfl ?_
      refine im_iconst (q := 2275) D452_2274 ?_
      refine im_iadd (q := 2276) D452_2275 ?_
      refine im_scld (q := 2277) D452_2276 hg1 hg9.1 hg9.2 ?_
      refine im_ld (q := 2278) (i := 0) D452_2277 rfl rfl rfl ?_
      refine im_ld (q := 2280) (i := 4) D452_2278 rfl rfl rfl ?_
      refine im_iconst (q := 2281) D452_2280 ?_
      refine im_iadd (q := 2282) D452_2281 ?_
      refine im_scld (q := 2283) D452_2282 hg1 hg10.1 hg10.2 ?_
      refine im_callV (q := 2286) (kd := 1) (y := 428) (n := 4) (ci := 12) (a := 6952) (vs := [.ref 6952, vI (scr g (p4 + 1)), vI x16, vI (scr g (p4 + 3)), vI (scr g (p4 + 4))]) (r := []) (L2 := [some (.ref 6952), some (vI (scr g (p4 + 1))), some (vI x16), some (vI (scr g (p4 + 3))), some (vI (scr g (p4 + 4))), none, none]) D452_2283 (im_cal cn_452 cl_13_239) (Or.inl rfl) rfl sf_6952 rfl rfl rfl rfl hd ⟨rfl, rfl, rfl, rfl, rfl, trivial⟩ ?_
      refine hP.mono ?_
      rintro _ e21 M20 ⟨x23, rfl, rfl, hP⟩
      refine im_bkS ?_
      refine im_st1 (q := 2288) (i := 6) (L' := [some (.float 200), some (.ref 0), some (.ref 6952), some (.ref 7081), some (vI p4), some (vI x14), some (vI x23), none]) D452_2286 (Or.inr rfl) (Nat.le_of_ble_eq_true rfl) rfl ?_
      refine im_ld (q := 2289) (i := 2) D452_2288 rfl rfl rfl ?_
      refine im_callV (q := 2292) (kd := 1) (y := 262) (n := 0) (ci := 12) (a := 6952) (vs := [.ref 6952]) (r := []) (L2 := [some (.ref 6952)]) D452_2289 (im_cal cn_452 cl_13_140) (Or.inl rfl) rfl sf_6952 rfl rfl rfl rfl hd ⟨rfl, trivial⟩ ?_
      refine hP.mono ?_
      rintro _ e25 M24 ⟨x27, rfl, rfl, hP⟩
      refine im_bkS ?_
      refine im_ld (q := 2294) (i := 5) D452_2292 rfl rfl rfl ?_
      obtain ⟨hg28, hP⟩ := hP
      obtain ⟨hg29, hP⟩ := hP
      obtain ⟨hP, hJ35⟩ := hP
      have kJ36 : (((x27 = x14) ∧ (¬ x14 = 0)) ∨ ((x27 = x14) ∧ (x14 = 0) ∧ ((M24 7081 0) = x23))) → im_T g d 452 2316 [some (.float 200), some (.ref 0), some (.ref 6952), some (.ref 7081), some (vI p4), none, none, none] [] (e ++ ex13) M24 K := by
        intro  hx37
        have hP := hJ35  hx37
        refine im_goto (q := 2319) (t := 2616) D452_2316 rfl ?_
        refine im_iinc (q := 2619) (i := 4) (L' := [some (.float 200), some (.ref 0), some (.ref 6952), some (.ref 7081), some (vI (p4 + 6)), none, none, none]) D452_2616 rfl (Nat.le_of_ble_eq_true rfl) rfl ?_
        refine im_goto (q := 2622) (t := 23) D452_2619 rfl ?_
        exact hP.wk ⟨rfl, rfl, rfl, rfl, rfl, trivial⟩
      refine im_icmp (q := 2297) (t := 2299) D452_2294 rfl hg28 hg29 (fun hc30 => ?_) (fun hc30 => ?_)
      · replace hP := hP.1 hc30
        refine im_ld (q := 2301) (i := 5) D452_2299 rfl rfl rfl ?_
        refine im_ifc (q := 2304) (t := 2316) D452_2301 rfl hg29 (fun hc31 => ?_) (fun hc31 => ?_)
        · exact (kJ36  (Or.inl ⟨hc30, hc31⟩)).wk ⟨rfl, rfl, rfl, rfl, rfl, trivial⟩
        · replace hP := hP (Decidable.not_not.mp hc31)
          refine im_ld (q := 2305) (i := 3) D452_2304 rfl rfl rfl ?_
          refine im_iconst (q := 2306) D452_2305 ?_
          refine im_rng (j := 0) sf_7081 (by decide) (by decide) (fun hr32 => ?_)
          refine im_lald (q := 2307) D452_2306 sf_7081 (by decide) (by decide) (by decide) rfl ?_
          refine im_ld (q := 2309) (i := 6) D452_2307 rfl rfl rfl ?_
          obtain ⟨hg33, hP⟩ := hP
          refine im_i2l (q := 2310) D452_2309 hg33 ?_
          refine im_lif (q := 2311) (q2 := 2314) (t := 2316) D452_2310 D452_2311 rfl hr32 (im_32_64 hg33) (fun hc34 => ?_) (fun hc34 => ?_)
          · exact (kJ36  (Or.inr ⟨hc30, (Decidable.not_not.mp hc31), hc34⟩)).wk ⟨rfl, rfl, rfl, rfl, rfl, trivial⟩
          · replace hP := hP hc34
            refine im_iconst (q := 2315) D452_2314 ?_
            exact im_zret (q := 2316) D452_2315 rfl (by decide) hP
      · replace hP := hP.2 hc30
        refine im_iconst (q := 2298) D452_2297 ?_
        exact im_zret (q := 2299) D452_2298 rfl (by decide) hP
    refine im_ifc (q := 2266) (t := 2270) D452_2263 rfl (scr_r _ _) (fun hc15 => ?_) (fun hc15 => ?_)
    · refine im_iconst (q := 2271) D452_2270 ?_
      exact (kJ18 (0) (Or.inl ⟨hc15, rfl⟩)).wk ⟨rfl, rfl, rfl, rfl, rfl, rfl, trivial⟩
    · refine im_iconst (q := 2267) D452_2266 ?_
      refine im_goto (q := 2270) (t := 2271) D452_2267 rfl ?_
      exact (kJ18 (1) (Or.inr ⟨hc15, rfl⟩)).wk ⟨rfl, rfl, rfl, rfl, rfl, rfl, trivial⟩
  refine im_ifc (q := 2227) (t := 2231) D452_2224 rfl (scr_r _ _) (fun hc4 => ?_) (fun hc4 => ?_)
  · refine im_iconst (q := 2232) D452_2231 ?_
    exact (kJ7 (0) (Or.inl ⟨hc4, rfl⟩)).wk ⟨rfl, rfl, rfl, rfl, rfl, trivial⟩
  · refine im_iconst (q := 2228) D452_2227 ?_
    refine im_goto (q := 2231) (t := 2232) D452_2228 rfl ?_
    exact (kJ7 (1) (Or.inr ⟨hc4, rfl⟩)).wk ⟨rfl, rfl, rfl, rfl, rfl, trivial⟩
set_option maxRecDepth 20000 in
set_option maxHeartbeats 4000000 in
theorem w_law_2319 {g : im_g} {d : Nat} {e : im_E} {M : im_M} {K : im_K} {p4 : Int} (hd : 1 ≤ d) (hP : im_T g (d - 1) 247 0 [some (.ref 0), some (.ref 7081), none] [] e M (im_ri (fun x4 e2 M1 => ∃ ex3 : im_E, e2 = e ++ ex3 ∧ im_T g (d - 1) 439 0 [some (.ref 6952)] [] (e ++ ex3) M1 (im_ri (fun x8 e_ M5 => (e ++ ex3) = e_ ∧ im_T g (d - 1) 262 0 [some (.ref 6952)] [] (e ++ ex3) M5 (im_ri (fun x12 e_ M9 => (e ++ ex3) = e_ ∧ (im_i32 x12) ∧ (im_i32 x4) ∧ ((((x12 = x4 → ((x4 = 0 → (im_i32 x8) ∧ ((¬ (M9 7081 0) = x8 → K (.inl (some (vI 0))) (e ++ ex3) M9))))) ∧ (¬ x12 = x4 → K (.inl (some (vI 0))) (e ++ ex3) M9))) ∧ ((((x12 = x4) ∧ (¬ x4 = 0)) ∨ ((x12 = x4) ∧ (x4 = 0) ∧ ((M9 7081 0) = x8))) → im_T g d 452 23 [some (.float 200), some (.ref 0), some (.ref 6952), some (.ref 7081), some (vI (p4 + 6)), none, none, none] [] (e ++ ex3) M9 K))))))))) : im_T g d 452 2319 [some (.float 200), some (.ref 0), some (.ref 6952), some (.ref 7081), some (vI p4), none, none, none] [] e M K := by
  refine im_ld (q := 2320) (i := 1) D452_2319 rfl rfl rfl ?_
  refine im_ld (q := 2321) (i := 3) D452_2320 rfl rfl rfl ?_
  refine im_callS (q := 2324) (kd := 0) (y := 247) (n := 2) (z := 0) (vs := [.ref 0, .ref 7081]) (r := []) (L2 := [some (.ref 0), some (.ref 7081), none]) D452_2321 rfl (im_cal cn_452 cl_13_240) (Or.inl rfl) rfl rfl rfl rfl rfl hd ⟨rfl, rfl, trivial⟩ ?_
  refine hP.mono ?_
  rintro _ e2 M1 ⟨x4, rfl, ex3, rfl, hP⟩
  refine im_bkS ?_
  refine im_st1 (q := 2326) (i := 5) (L' := [some (.float 200), some (.ref 0), some (.ref 6952), some (.ref 7081), some (vI p4), some (vI x4), none, none]) D452_2324 (Or.inr rfl) (Nat.le_of_ble_eq_true rfl) rfl ?_
  refine im_ld (q := 2327) (i := 2) D452_2326 rfl rfl rfl ?_
  refine im_callV (q := 2330) (kd := 1) (y := 439) (n := 0) (ci := 12) (a := 6952) (vs := [.ref 6952]) (r := []) (L2 := [some (.ref 6952)]) D452_2327 (im_cal cn_452 cl_13_242) (Or.inl rfl) rfl sf_6952 rfl rfl rfl rfl hd ⟨rfl, trivial⟩ ?_
  refine hP.mono ?_
  rintro _ e6 M5 ⟨x8, rfl, rfl, hP⟩
  refine im_bkS ?_
  refine im_st1 (q := 2332) (i := 6) (L' := [some (.float 200), some (.ref 0), some (.ref 6952), some (.ref 7081), some (vI p4), some (vI x4), some (vI x8), none]) D452_2330 (Or.inr rfl) (Nat.le_of_ble_eq_true rfl) rfl ?_
  refine im_ld (q := 2333) (i := 2) D452_2332 rfl rfl rfl ?_
  refine im_callV (q := 2336) (kd := 1) (y := 262) (n := 0) (ci := 12) (a := 6952) (vs := [.ref 6952]) (r := []) (L2 := [some (.ref 6952)]) D452_2333 (im_cal cn_452 cl_13_140) (Or.inl rfl) rfl sf_6952 rfl rfl rfl rfl hd ⟨rfl, trivial⟩ ?_
  refine hP.mono ?_
  rintro _ e10 M9 ⟨x12, rfl, rfl, hP⟩
  refine im_bkS ?_
  refine im_ld (q := 2338) (i := 5) D452_2336 rfl rfl rfl ?_
  obtain ⟨hg13, hP⟩ := hP
  obtain ⟨hg14, hP⟩ := hP
  obtain ⟨hP, hJ20⟩ := hP
  have kJ21 : (((x12 = x4) ∧ (¬ x4 = 0)) ∨ ((x12 = x4) ∧ (x4 = 0) ∧ ((M9 7081 0) = x8))) → im_T g d 452 2360 [some (.float 200), some (.ref 0), some (.ref 6952), some (.ref 7081), some (vI p4), none, none, none] [] (e ++ ex3) M9 K := by
    intro  hx22
    have hP := hJ20  hx22
    refine im_goto (q := 2363) (t := 2616) D452_2360 rfl ?_
    refine im_iinc (q := 2619) (i := 4) (L' := [some (.float 200), some (.ref 0), some (.ref 6952), some (.ref 7081), some (vI (p4 + 6)), none, none, none]) D452_2616 rfl (Nat.le_of_ble_eq_true rfl) rfl ?_
    refine im_goto (q := 2622) (t := 23) D452_2619 rfl ?_
    exact hP.wk ⟨rfl, rfl, rfl, rfl, rfl, trivial⟩
  refine im_icmp (q := 2341) (t := 2343) D452_2338 rfl hg13 hg14 (fun hc15 => ?_) (fun hc15 => ?_)
  · replace hP := hP.1 hc15
    refine im_ld (q := 2345) (i := 5) D452_2343 rfl rfl rfl ?_
    refine im_ifc (q := 2348) (t := 2360) D452_2345 rfl hg14 (fun hc16 => ?_) (fun hc16 => ?_)
    · exact (kJ21  (Or.inl ⟨hc15, hc16⟩)).wk ⟨rfl, rfl, rfl, rfl, rfl, trivial⟩
    · replace hP := hP (Decidable.not_not.mp hc16)
      refine im_ld (q := 2349) (i := 3) D452_2348 rfl rfl rfl ?_
      refine im_iconst (q := 2350) D452_2349 ?_
      refine im_rng (j := 0) sf_7081 (by decide) (by decide) (fun hr17 => ?_)
      refine im_lald (q := 2351) D452_2350 sf_7081 (by decide) (by decide) (by decide) rfl ?_
      refine im_ld (q := 2353) (i := 6) D452_2351 rfl rfl rfl ?_
      obtain ⟨hg18, hP⟩ := hP
      refine im_i2l (q := 2354) D452_2353 hg18 ?_
      refine im_lif (q := 2355) (q2 := 2358) (t := 2360) D452_2354 D452_2355 rfl hr17 (im_32_64 hg18) (fun hc19 => ?_) (fun hc19 => ?_)
      · exact (kJ21  (Or.inr ⟨hc15, (Decidable.not_not.mp hc16), hc19⟩)).wk ⟨rfl, rfl, rfl, rfl, rfl, trivial⟩
      · replace hP := hP hc19
        refine im_iconst (q := 2359) D452_2358 ?_
        exact im_zret (q := 2360) D452_2359 rfl (by decide) hP
  · replace hP := hP.2 hc15
    refine im_iconst (q := 2342) D452_2341 ?_
    exact im_zret (q := 2343) D452_2342 rfl (by decide) hP
set_option maxRecDepth 20000 in
set_option maxHeartbeats 4000000 in
theorem w_law_2363 {g : im_g} {d : Nat} {e : im_E} {M : im_M} {K : im_K} {p4 : Int} (hd : 1 ≤ d) (hP : (g.2 ≤ 2147483647) ∧ (0 ≤ (p4 + 1) ∧ (p4 + 1) < g.2) ∧ im_T g (d - 1) 249 0 [some (.ref 0), some (vI (scr g (p4 + 1))), none] [] e M (im_ri (fun x6 e4 M3 => ∃ ex5 : im_E, e4 = e ++ ex5 ∧ im_T g (d - 1) 440 0 [some (.ref 6952), some (vI (scr g (p4 + 1)))] [] (e ++ ex5) M3 (im_r0 (fun  e_ M7 => (e ++ ex5) = e_ ∧ im_T g (d - 1) 262 0 [some (.ref 6952)] [] (e ++ ex5) M7 (im_ri (fun x13 e_ M10 => (e ++ ex5) = e_ ∧ (im_i32 x13) ∧ (im_i32 x6) ∧ ((x13 = x6 → im_T g d 452 23 [some (.float 200), some (.ref 0), some (.ref 6952), some (.ref 7081), some (vI (p4 + 6)), none, none, none] [] (e ++ ex5) M10 K) ∧ (¬ x13 = x6 → K (.inl (some (vI 0))) (e ++ ex5) M10))))))))) : im_T g d 452 2363 [some (.float 200), some (.ref 0), some (.ref 6952), some (.ref 7081), some (vI p4), none, none, none] [] e M K := by
  refine im_ld (q := 2364) (i := 1) D452_2363 rfl rfl rfl ?_
  refine im_ld (q := 2365) (i := 0) D452_2364 rfl rfl rfl ?_
  refine im_ld (q := 2367) (i := 4) D452_2365 rfl rfl rfl ?_
  refine im_iconst (q := 2368) D452_2367 ?_
  refine im_iadd (q := 2369) D452_2368 ?_
  obtain ⟨hg1, hP⟩ := hP
  obtain ⟨hg2, hP⟩ := hP
  refine im_scld (q := 2370) D452_2369 hg1 hg2.1 hg2.2 ?_
  refine im_callS (q := 2373) (kd := 0) (y := 249) (n := 2) (z := 0) (vs := [.ref 0, vI (scr g (p4 + 1))]) (r := []) (L2 := [some (.ref 0), some (vI (scr g (p4 + 1))), none]) D452_2370 rfl (im_cal cn_452 cl_13_243) (Or.inl rfl) rfl rfl rfl rfl rfl hd ⟨rfl, rfl, trivial⟩ ?_
  refine hP.mono ?_
  rintro _ e4 M3 ⟨x6, rfl, ex5, rfl, hP⟩
  refine im_bkS ?_
  refine im_st1 (q := 2375) (i := 5) (L' := [some (.float 200), some (.ref 0), some (.ref 6952), some (.ref 7081), some (vI p4), some (vI x6), none, none]) D452_2373 (Or.inr rfl) (Nat.le_of_ble_eq_true rfl) rfl ?_
  refine im_ld (q := 2376) (i := 2) D452_2375 rfl rfl rfl ?_
  refine im_ld (q := 2377) (i := 0) D452_2376 rfl rfl rfl ?_
  refine im_ld (q := 2379) (i := 4) D452_2377 rfl rfl rfl ?_
  refine im_iconst (q := 2380) D452_2379 ?_
  refine im_iadd (q := 2381) D452_2380 ?_
  refine im_scld (q := 2382) D452_2381 hg1 hg2.1 hg2.2 ?_
  refine im_callV (q := 2385) (kd := 1) (y := 440) (n := 1) (ci := 12) (a := 6952) (vs := [.ref 6952, vI (scr g (p4 + 1))]) (r := []) (L2 := [some (.ref 6952), some (vI (scr g (p4 + 1)))]) D452_2382 (im_cal cn_452 cl_13_246) (Or.inl rfl) rfl sf_6952 rfl rfl rfl rfl hd ⟨rfl, rfl, trivial⟩ ?_
  refine hP.mono ?_
  rintro _ e8 M7 ⟨rfl, rfl, hP⟩
  refine im_bkN ?_
  refine im_ld (q := 2386) (i := 2) D452_2385 rfl rfl rfl ?_
  refine im_callV (q := 2389) (kd := 1) (y := 262) (n := 0) (ci := 12) (a := 6952) (vs := [.ref 6952]) (r := []) (L2 := [some (.ref 6952)]) D452_2386 (im_cal cn_452 cl_13_140) (Or.inl rfl) rfl sf_6952 rfl rfl rfl rfl hd ⟨rfl, trivial⟩ ?_
  refine hP.mono ?_
  rintro _ e11 M10 ⟨x13, rfl, rfl, hP⟩
  refine im_bkS ?_
  refine im_ld (q := 2391) (i := 5) D452_2389 rfl rfl rfl ?_
  obtain ⟨hg14, hP⟩ := hP
  obtain ⟨hg15, hP⟩ := hP
  refine im_icmp (q := 2394) (t := 2396) D452_2391 rfl hg14 hg15 (fun hc16 => ?_) (fun hc16 => ?_)
  · replace hP := hP.1 hc16
    refine im_goto (q := 2399) (t := 2616) D452_2396 rfl ?_
    refine im_iinc (q := 2619) (i := 4) (L' := [some (.float 200), some (.ref 0), some (.ref 6952), some (.ref 7081), some (vI (p4 + 6)), some (vI x6), none, none]) D452_2616 rfl (Nat.le_of_ble_eq_true rfl) rfl ?_
    refine im_goto (q := 2622) (t := 23) D452_2619 rfl ?_
    exact hP.wk ⟨rfl, rfl, rfl, rfl, rfl, trivial⟩
  · replace hP := hP.2 hc16
    refine im_iconst (q := 2395) D452_2394 ?_
    exact im_zret (q := 2396) D452_2395 rfl (by decide) hP
set_option maxRecDepth 20000 in
set_option maxHeartbeats 4000000 in
theorem w_law_2399 {g : im_g} {d : Nat} {e : im_E} {M : im_M} {K : im_K} {p4 : Int} (hd : 1 ≤ d) (hP : (g.2 ≤ 2147483647) ∧ (0 ≤ (p4 + 1) ∧ (p4 + 1) < g.2) ∧ im_T g (d - 1) 251 0 [some (.ref 0), some (vI (scr g (p4 + 1))), some (.ref 7081), none] [] e M (im_ri (fun x6 e4 M3 => ∃ ex5 : im_E, e4 = e ++ ex5 ∧ im_T g (d - 1) 441 0 [some (.ref 6952), some (vI (scr g (p4 + 1)))] [] (e ++ ex5) M3 (im_ri (fun x10 e_ M7 => (e ++ ex5) = e_ ∧ im_T g (d - 1) 262 0 [some (.ref 6952)] [] (e ++ ex5) M7 (im_ri (fun x14 e_ M11 => (e ++ ex5) = e_ ∧ (im_i32 x14) ∧ (im_i32 x6) ∧ ((((x14 = x6 → ((x6 = 0 → (im_i32 x10) ∧ ((¬ (M11 7081 0) = x10 → K (.inl (some (vI 0))) (e ++ ex5) M11))))) ∧ (¬ x14 = x6 → K (.inl (some (vI 0))) (e ++ ex5) M11))) ∧ ((((x14 = x6) ∧ (¬ x6 = 0)) ∨ ((x14 = x6) ∧ (x6 = 0) ∧ ((M11 7081 0) = x10))) → im_T g d 452 23 [some (.float 200), some (.ref 0), some (.ref 6952), some (.ref 7081), some (vI (p4 + 6)), none, none, none] [] (e ++ ex5) M11 K))))))))) : im_T g d 452 2399 [some (.float 200), some (.ref 0), some (.ref 6952), some (.ref 7081), some (vI p4), none, none, none] [] e M K := by
  refine im_ld (q := 2400) (i := 1) D452_2399 rfl rfl rfl ?_
  refine im_ld (q := 2401) (i := 0) D452_2400 rfl rfl rfl ?_
  refine im_ld (q := 2403) (i := 4) D452_2401 rfl rfl rfl ?_
  refine im_iconst (q := 2404) D452_2403 ?_
  refine im_iadd (q := 2405) D452_2404 ?_
  obtain ⟨hg1, hP⟩ := hP
  obtain ⟨hg2, hP⟩ := hP
  refine im_scld (q := 2406) D452_2405 hg1 hg2.1 hg2.2 ?_
  refine im_ld (q := 2407) (i := 3) D452_2406 rfl rfl rfl ?_
  refine im_callS (q := 2410) (kd := 0) (y := 251) (n := 3) (z := 0) (vs := [.ref 0, vI (scr g (p4 + 1)), .ref 7081]) (r := []) (L2 := [some (.ref 0), some (vI (scr g (p4 + 1))), some (.ref 7081), none]) D452_2407 rfl (im_cal cn_452 cl_13_247) (Or.inl rfl) rfl rfl rfl rfl rfl hd ⟨rfl, rfl, rfl, trivial⟩ ?_
  refine hP.mono ?_
  rintro _ e4 M3 ⟨x6, rfl, ex5, rfl, hP⟩
  refine im_bkS ?_
  refine im_st1 (q := 2412) (i := 5) (L' := [some (.float 200), some (.ref 0), some (.ref 6952), some (.ref 7081), some (vI p4), some (vI x6), none, none]) D452_2410 (Or.inr rfl) (Nat.le_of_ble_eq_true rfl) rfl ?_
  refine im_ld (q := 2413) (i := 2) D452_2412 rfl rfl rfl ?_
  refine im_ld (q := 2414) (i := 0) D452_2413 rfl rfl rfl ?_
  refine im_ld (q := 2416) (i := 4) D452_2414 rfl rfl rfl ?_
  refine im_iconst (q := 2417) D452_2416 ?_
  refine im_iadd (q := 2418) D452_2417 ?_
  refine im_scld (q := 2419) D452_2418 hg1 hg2.1 hg2.2 ?_
  refine im_callV (q := 2422) (kd := 1) (y := 441) (n := 1) (ci := 12) (a := 6952) (vs := [.ref 6952, vI (scr g (p4 + 1))]) (r := []) (L2 := [some (.ref 6952), some (vI (scr g (p4 + 1)))]) D452_2419 (im_cal cn_452 cl_13_249) (Or.inl rfl) rfl sf_6952 rfl rfl rfl rfl hd ⟨rfl, rfl, trivial⟩ ?_
  refine hP.mono ?_
  rintro _ e8 M7 ⟨x10, rfl, rfl, hP⟩
  refine im_bkS ?_
  refine im_st1 (q := 2424) (i := 6) (L' := [some (.float 200), some (.ref 0), some (.ref 6952), some (.ref 7081), some (vI p4), some (vI x6), some (vI x10), none]) D452_2422 (Or.inr rfl) (Nat.le_of_ble_eq_true rfl) rfl ?_
  refine im_ld (q := 2425) (i := 2) D452_2424 rfl rfl rfl ?_
  refine im_callV (q := 2428) (kd := 1) (y := 262) (n := 0) (ci := 12) (a := 6952) (vs := [.ref 6952]) (r := []) (L2 := [some (.ref 6952)]) D452_2425 (im_cal cn_452 cl_13_140) (Or.inl rfl) rfl sf_6952 rfl rfl rfl rfl hd ⟨rfl, trivial⟩ ?_
  refine hP.mono ?_
  rintro _ e12 M11 ⟨x14, rfl, rfl, hP⟩
  refine im_bkS ?_
  refine im_ld (q := 2430) (i := 5) D452_2428 rfl rfl rfl ?_
  obtain ⟨hg15, hP⟩ := hP
  obtain ⟨hg16, hP⟩ := hP
  obtain ⟨hP, hJ22⟩ := hP
  have kJ23 : (((x14 = x6) ∧ (¬ x6 = 0)) ∨ ((x14 = x6) ∧ (x6 = 0) ∧ ((M11 7081 0) = x10))) → im_T g d 452 2452 [some (.float 200), some (.ref 0), some (.ref 6952), some (.ref 7081), some (vI p4), none, none, none] [] (e ++ ex5) M11 K := by
    intro  hx24
    have hP := hJ22  hx24
    refine im_goto (q := 2455) (t := 2616) D452_2452 rfl ?_
    refine im_iinc (q := 2619) (i := 4) (L' := [some (.float 200), some (.ref 0), some (.ref 6952), some (.ref 7081), some (vI (p4 + 6)), none, none, none]) D452_2616 rfl (Nat.le_of_ble_eq_true rfl) rfl ?_
    refine im_goto (q := 2622) (t := 23) D452_2619 rfl ?_
    exact hP.wk ⟨rfl, rfl, rfl, rfl, rfl, trivial⟩
  refine im_icmp (q := 2433) (t := 2435) D452_2430 rfl hg15 hg16 (fun hc17 => ?_) (fun hc17 => ?_)
  · replace hP := hP.1 hc17
    refine im_ld (q := 2437) (i := 5) D452_2435 rfl rfl rfl ?_
    refine im_ifc (q := 2440) (t := 2452) D452_2437 rfl hg16 (fun hc18 => ?_) (fun hc18 => ?_)
    · exact (kJ23  (Or.inl ⟨hc17, hc18⟩)).wk ⟨rfl, rfl, rfl, rfl, rfl, trivial⟩
    · replace hP := hP (Decidable.not_not.mp hc18)
      refine im_ld (q := 2441) (i := 3) D452_2440 rfl rfl rfl ?_
      refine im_iconst (q := 2442) D452_2441 ?_
      refine im_rng (j := 0) sf_7081 (by decide) (by decide) (fun hr19 => ?_)
      refine im_lald (q := 2443) D452_2442 sf_7081 (by decide) (by decide) (by decide) rfl ?_
      refine im_ld (q := 2445) (i := 6) D452_2443 rfl rfl rfl ?_
      obtain ⟨hg20, hP⟩ := hP
      refine im_i2l (q := 2446) D452_2445 hg20 ?_
      refine im_lif (q := 2447) (q2 := 2450) (t := 2452) D452_2446 D452_2447 rfl hr19 (im_32_64 hg20) (fun hc21 => ?_) (fun hc21 => ?_)
      · exact (kJ23  (Or.inr ⟨hc17, (Decidable.not_not.mp hc18), hc21⟩)).wk ⟨rfl, rfl, rfl, rfl, rfl, trivial⟩
      · replace hP := hP hc21
        refine im_iconst (q := 2451) D452_2450 ?_
        exact im_zret (q := 2452) D452_2451 rfl (by decide) hP
  · replace hP := hP.2 hc17
    refine im_iconst (q := 2434) D452_2433 ?_
    exact im_zret (q := 2435) D452_2434 rfl (by decide) hP
set_option maxRecDepth 20000 in
set_option maxHeartbeats 4000000 in
theorem w_law_2455 {g : im_g} {d : Nat} {e : im_E} {M : im_M} {K : im_K} {p4 : Int} (hd : 1 ≤ d) (hP : (g.2 ≤ 2147483647) ∧ (0 ≤ (p4 + 1) ∧ (p4 + 1) < g.2) ∧ (0 ≤ (p4 + 2) ∧ (p4 + 2) < g.2) ∧ im_T g (d - 1) 253 0 [some (.ref 0), some (vI (scr g (p4 + 1))), some (vI (scr g (p4 + 2))), some (.ref 7081), none] [] e M (im_ri (fun x7 e5 M4 => ∃ ex6 : im_E, e5 = e ++ ex6 ∧ im_T g (d - 1) 442 0 [some (.ref 6952), some (vI (scr g (p4 + 1))), some (vI (scr g (p4 + 2))), none] [] (e ++ ex6) M4 (im_ri (fun x11 e_ M8 => (e ++ ex6) = e_ ∧ im_T g (d - 1) 262 0 [some (.ref 6952)] [] (e ++ ex6) M8 (im_ri (fun x15 e_ M12 => (e ++ ex6) = e_ ∧ (im_i32 x15) ∧ (im_i32 x7) ∧ ((((x15 = x7 → ((x7 = 0 → (im_i32 x11) ∧ ((¬ (M12 7081 0) = x11 → K (.inl (some (vI 0))) (e ++ ex6) M12))))) ∧ (¬ x15 = x7 → K (.inl (some (vI 0))) (e ++ ex6) M12))) ∧ ((((x15 = x7) ∧ (¬ x7 = 0)) ∨ ((x15 = x7) ∧ (x7 = 0) ∧ ((M12 7081 0) = x11))) → im_T g d 452 23 [some (.float 200), some (.ref 0), some (.ref 6952), some (.ref 7081), some (vI (p4 + 6)), none, none, none] [] (e ++ ex6) M12 K))))))))) : im_T g d 452 2455 [some (.float 200), some (.ref 0), some (.ref 6952), some (.ref 7081), some (vI p4), none, none, none] [] e M K := by
  refine im_ld (q := 2456) (i := 1) D452_2455 rfl rfl rfl ?_
  refine im_ld (q := 2457) (i := 0) D452_2456 rfl rfl rfl ?_
  refine im_ld (q := 2459) (i := 4) D452_2457 rfl rfl rfl ?_
  refine im_iconst (q := 2460) D452_2459 ?_
  refine im_iadd (q := 2461) D452_2460 ?_
  obtain ⟨hg1, hP⟩ := hP
  obtain ⟨hg2, hP⟩ := hP
  refine im_scld (q := 2462) D452_2461 hg1 hg2.1 hg2.2 ?_
  refine im_ld (q := 2463) (i := 0) D452_2462 rfl rfl rfl ?_
  refine im_ld (q := 2465) (i := 4) D452_2463 rfl rfl rfl ?_
  refine im_iconst (q := 2466) D452_2465 ?_
  refine im_iadd (q := 2467) D452_2466 ?_
  obtain ⟨hg3, hP⟩ := hP
  refine im_scld (q := 2468) D452_2467 hg1 hg3.1 hg3.2 ?_
  refine im_ld (q := 2469) (i := 3) D452_2468 rfl rfl rfl ?_
  refine im_callS (q := 2472) (kd := 0) (y := 253) (n := 4) (z := 0) (vs := [.ref 0, vI (scr g (p4 + 1)), vI (scr g (p4 + 2)), .ref 7081]) (r := []) (L2 := [some (.ref 0), some (vI (scr g (p4 + 1))), some (vI (scr g (p4 + 2))), some (.ref 7081), none]) D452_2469 rfl (im_cal cn_452 cl_13_250) (Or.inl rfl) rfl rfl rfl rfl rfl hd ⟨rfl, rfl, rfl, rfl, trivial⟩ ?_
  refine hP.mono ?_
  rintro _ e5 M4 ⟨x7, rfl, ex6, rfl, hP⟩
  refine im_bkS ?_
  refine im_st1 (q := 2474) (i := 5) (L' := [some (.float 200), some (.ref 0), some (.ref 6952), some (.ref 7081), some (vI p4), some (vI x7), none, none]) D452_2472 (Or.inr rfl) (Nat.le_of_ble_eq_true rfl) rfl ?_
  refine im_ld (q := 2475) (i := 2) D452_2474 rfl rfl rfl ?_
  refine im_ld (q := 2476) (i := 0) D452_2475 rfl rfl rfl ?_
  refine im_ld (q := 2478) (i := 4) D452_2476 rfl rfl rfl ?_
  refine im_iconst (q := 2479) D452_2478 ?_
  refine im_iadd (q := 2480) D452_2479 ?_
  refine im_scld (q := 2481) D452_2480 hg1 hg2.1 hg2.2 ?_
  refine im_ld (q := 2482) (i := 0) D452_2481 rfl rfl rfl ?_
  refine im_ld (q := 2484) (i := 4) D452_2482 rfl rfl rfl ?_
  refine im_iconst (q := 2485) D452_2484 ?_
  refine im_iadd (q := 2486) D452_2485 ?_
  refine im_scld (q := 2487) D452_2486 hg1 hg3.1 hg3.2 ?_
  refine im_callV (q := 2490) (kd := 1) (y := 442) (n := 2) (ci := 12) (a := 6952) (vs := [.ref 6952, vI (scr g (p4 + 1)), vI (scr g (p4 + 2))]) (r := []) (L2 := [some (.ref 6952), some (vI (scr g (p4 + 1))), some (vI (scr g (p4 + 2))), none]) D452_2487 (im_cal cn_452 cl_13_252) (Or.inl rfl) rfl sf_6952 rfl rfl rfl rfl hd ⟨rfl, rfl, rfl, trivial⟩ ?_
  refine hP.mono ?_
  rintro _ e9 M8 ⟨x11, rfl, rfl, hP⟩
  refine im_bkS ?_
  refine im_st1 (q := 2492) (i := 6) (L' := [some (.float 200), some (.ref 0), some (.ref 6952), some (.ref 7081), some (vI p4), some (vI x7), some (vI x11), none]) D452_2490 (Or.inr rfl) (Nat.le_of_ble_eq_true rfl) rfl ?_
  refine im_ld (q := 2493) (i := 2) D452_2492 rfl rfl rfl ?_
  refine im_callV (q := 2496) (kd := 1) (y := 262) (n := 0) (ci := 12) (a := 6952) (vs := [.ref 6952]) (r := []) (L2 := [some (.ref 6952)]) D452_2493 (im_cal cn_452 cl_13_140) (Or.inl rfl) rfl sf_6952 rfl rfl rfl rfl hd ⟨rfl, trivial⟩ ?_
  refine hP.mono ?_
  rintro _ e13 M12 ⟨x15, rfl, rfl, hP⟩
  refine im_bkS ?_
  refine im_ld (q := 2498) (i := 5) D452_2496 rfl rfl rfl ?_
  obtain ⟨hg16, hP⟩ := hP
  obtain ⟨hg17, hP⟩ := hP
  obtain ⟨hP, hJ23⟩ := hP
  have kJ24 : (((x15 = x7) ∧ (¬ x7 = 0)) ∨ ((x15 = x7) ∧ (x7 = 0) ∧ ((M12 7081 0) = x11))) → im_T g d 452 2520 [some (.float 200), some (.ref 0), some (.ref 6952), some (.ref 7081), some (vI p4), none, none, none] [] (e ++ ex6) M12 K := by
    intro  hx25
    have hP := hJ23  hx25
    refine im_goto (q := 2523) (t := 2616) D452_2520 rfl ?_
    refine im_iinc (q := 2619) (i := 4) (L' := [some (.float 200), some (.ref 0), some (.ref 6952), some (.ref 7081), some (vI (p4 + 6)), none, none, none]) D452_2616 rfl (Nat.le_of_ble_eq_true rfl) rfl ?_
    refine im_goto (q := 2622) (t := 23) D452_2619 rfl ?_
    exact hP.wk ⟨rfl, rfl, rfl, rfl, rfl, trivial⟩
  refine im_icmp (q := 2501) (t := 2503) D452_2498 rfl hg16 hg17 (fun hc18 => ?_) (fun hc18 => ?_)
  · replace hP := hP.1 hc18
    refine im_ld (q := 2505) (i := 5) D452_2503 rfl rfl rfl ?_
    refine im_ifc (q := 2508) (t := 2520) D452_2505 rfl hg17 (fun hc19 => ?_) (fun hc19 => ?_)
    · exact (kJ24  (Or.inl ⟨hc18, hc19⟩)).wk ⟨rfl, rfl, rfl, rfl, rfl, trivial⟩
    · replace hP := hP (Decidable.not_not.mp hc19)
      refine im_ld (q := 2509) (i := 3) D452_2508 rfl rfl rfl ?_
      refine im_iconst (q := 2510) D452_2509 ?_
      refine im_rng (j := 0) sf_7081 (by decide) (by decide) (fun hr20 => ?_)
      refine im_lald (q := 2511) D452_2510 sf_7081 (by decide) (by decide) (by decide) rfl ?_
      refine im_ld (q := 2513) (i := 6) D452_2511 rfl rfl rfl ?_
      obtain ⟨hg21, hP⟩ := hP
      refine im_i2l (q := 2514) D452_2513 hg21 ?_
      refine im_lif (q := 2515) (q2 := 2518) (t := 2520) D452_2514 D452_2515 rfl hr20 (im_32_64 hg21) (fun hc22 => ?_) (fun hc22 => ?_)
      · exact (kJ24  (Or.inr ⟨hc18, (Decidable.not_not.mp hc19), hc22⟩)).wk ⟨rfl, rfl, rfl, rfl, rfl, trivial⟩
      · replace hP := hP hc22
        refine im_iconst (q := 2519) D452_2518 ?_
        exact im_zret (q := 2520) D452_2519 rfl (by decide) hP
  · replace hP := hP.2 hc18
    refine im_iconst (q := 2502) D452_2501 ?_
    exact im_zret (q := 2503) D452_2502 rfl (by decide) hP
set_option maxRecDepth 20000 in
set_option maxHeartbeats 4000000 in
theorem w_law_2523 {g : im_g} {d : Nat} {e : im_E} {M : im_M} {K : im_K} {p4 : Int} (hd : 1 ≤ d) (hP : im_T g (d - 1) 255 0 [some (.ref 0), none] [] e M (im_ri (fun x4 e2 M1 => ∃ ex3 : im_E, e2 = e ++ ex3 ∧ im_T g (d - 1) 443 0 [some (.ref 6952)] [] (e ++ ex3) M1 (im_r0 (fun  e_ M5 => (e ++ ex3) = e_ ∧ im_T g (d - 1) 262 0 [some (.ref 6952)] [] (e ++ ex3) M5 (im_ri (fun x11 e_ M8 => (e ++ ex3) = e_ ∧ (im_i32 x11) ∧ (im_i32 x4) ∧ ((x11 = x4 → im_T g d 452 23 [some (.float 200), some (.ref 0), some (.ref 6952), some (.ref 7081), some (vI (p4 + 6)), none, none, none] [] (e ++ ex3) M8 K) ∧ (¬ x11 = x4 → K (.inl (some (vI 0))) (e ++ ex3) M8))))))))) : im_T g d 452 2523 [some (.float 200), some (.ref 0), some (.ref 6952), some (.ref 7081), some (vI p4), none, none, none] [] e M K := by
  refine im_ld (q := 2524) (i := 1) D452_2523 rfl rfl rfl ?_
  refine im_callS (q := 2527) (kd := 0) (y := 255) (n := 1) (z := 0) (vs := [.ref 0]) (r := []) (L2 := [some (.ref 0), none]) D452_2524 rfl (im_cal cn_452 cl_13_253) (Or.inl rfl) rfl rfl rfl rfl rfl hd ⟨rfl, trivial⟩ ?_
  refine hP.mono ?_
  rintro _ e2 M1 ⟨x4, rfl, ex3, rfl, hP⟩
  refine im_bkS ?_
  refine im_st1 (q := 2529) (i := 5) (L' := [some (.float 200), some (.ref 0), some (.ref 6952), some (.ref 7081), some (vI p4), some (vI x4), none, none]) D452_2527 (Or.inr rfl) (Nat.le_of_ble_eq_true rfl) rfl ?_
  refine im_ld (q := 2530) (i := 2) D452_2529 rfl rfl rfl ?_
  refine im_callV (q := 2533) (kd := 1) (y := 443) (n := 0) (ci := 12) (a := 6952) (vs := [.ref 6952]) (r := []) (L2 := [some (.ref 6952)]) D452_2530 (im_cal cn_452 cl_13_256) (Or.inl rfl) rfl sf_6952 rfl rfl rfl rfl hd ⟨rfl, trivial⟩ ?_
  refine hP.mono ?_
  rintro _ e6 M5 ⟨rfl, rfl, hP⟩
  refine im_bkN ?_
  refine im_ld (q := 2534) (i := 2) D452_2533 rfl rfl rfl ?_
  refine im_callV (q := 2537) (kd := 1) (y := 262) (n := 0) (ci := 12) (a := 6952) (vs := [.ref 6952]) (r := []) (L2 := [some (.ref 6952)]) D452_2534 (im_cal cn_452 cl_13_140) (Or.inl rfl) rfl sf_6952 rfl rfl rfl rfl hd ⟨rfl, trivial⟩ ?_
  refine hP.mono ?_
  rintro _ e9 M8 ⟨x11, rfl, rfl, hP⟩
  refine im_bkS ?_
  refine im_ld (q := 2539) (i := 5) D452_2537 rfl rfl rfl ?_
  obtain ⟨hg12, hP⟩ := hP
  obtain ⟨hg13, hP⟩ := hP
  refine im_icmp (q := 2542) (t := 2544) D452_2539 rfl hg12 hg13 (fun hc14 => ?_) (fun hc14 => ?_)
  · replace hP := hP.1 hc14
    refine im_goto (q := 2547) (t := 2616) D452_2544 rfl ?_
    refine im_iinc (q := 2619) (i := 4) (L' := [some (.float 200), some (.ref 0), some (.ref 6952), some (.ref 7081), some (vI (p4 + 6)), some (vI x4), none, none]) D452_2616 rfl (Nat.le_of_ble_eq_true rfl) rfl ?_
    refine im_goto (q := 2622) (t := 23) D452_2619 rfl ?_
    exact hP.wk ⟨rfl, rfl, rfl, rfl, rfl, trivial⟩
  · replace hP := hP.2 hc14
    refine im_iconst (q := 2543) D452_2542 ?_
    exact im_zret (q := 2544) D452_2543 rfl (by decide) hP
set_option maxRecDepth 20000 in
set_option maxHeartbeats 4000000 in
theorem w_law_2547 {g : im_g} {d : Nat} {e : im_E} {M : im_M} {K : im_K} {p4 : Int} (hd : 1 ≤ d) (hP : im_T g (d - 1) 20 0 [some (.ref 0), none, none, none, none, none, none, none, none, none, none] [] e M (im_ri (fun x4 e_ M1 => e = e_ ∧ im_T g (d - 1) 444 0 [some (.ref 6952), none] [] e M1 (im_ri (fun x8 e_ M5 => e = e_ ∧ (im_i32 x4) ∧ (im_i32 x8) ∧ ((x4 = x8 → im_T g d 452 23 [some (.float 200), some (.ref 0), some (.ref 6952), some (.ref 7081), some (vI (p4 + 6)), none, none, none] [] e M5 K) ∧ (¬ x4 = x8 → K (.inl (some (vI 0))) e M5))))))) : im_T g d 452 2547 [some (.float 200), some (.ref 0), some (.ref 6952), some (.ref 7081), some (vI p4), none, none, none] [] e M K := by
  refine im_ld (q := 2548) (i := 1) D452_2547 rfl rfl rfl ?_
  refine im_callV (q := 2551) (kd := 1) (y := 20) (n := 0) (ci := 11) (a := 0) (vs := [.ref 0]) (r := []) (L2 := [some (.ref 0), none, none, none, none, none, none, none, none, none, none]) D452_2548 (im_cal cn_452 cl_13_257) (Or.inl rfl) rfl sf_0 rfl rfl rfl rfl hd ⟨rfl, trivial⟩ ?_
  refine hP.mono ?_
  rintro _ e2 M1 ⟨x4, rfl, rfl, hP⟩
  refine im_bkS ?_
  refine im_ld (q := 2552) (i := 2) D452_2551 rfl rfl rfl ?_
  refine im_callV (q := 2555) (kd := 1) (y := 444) (n := 0) (ci := 12) (a := 6952) (vs := [.ref 6952]) (r := [vI x4]) (L2 := [some (.ref 6952), none]) D452_2552 (im_cal cn_452 cl_13_260) (Or.inl rfl) rfl sf_6952 rfl rfl rfl rfl hd ⟨rfl, trivial⟩ ?_
  refine hP.mono ?_
  rintro _ e6 M5 ⟨x8, rfl, rfl, hP⟩
  refine im_bkS ?_
  obtain ⟨hg9, hP⟩ := hP
  obtain ⟨hg10, hP⟩ := hP
  refine im_icmp (q := 2558) (t := 2616) D452_2555 rfl hg9 hg10 (fun hc11 => ?_) (fun hc11 => ?_)
  · replace hP := hP.1 hc11
    refine im_iinc (q := 2619) (i := 4) (L' := [some (.float 200), some (.ref 0), some (.ref 6952), some (.ref 7081), some (vI (p4 + 6)), none, none, none]) D452_2616 rfl (Nat.le_of_ble_eq_true rfl) rfl ?_
    refine im_goto (q := 2622) (t := 23) D452_2619 rfl ?_
    exact hP.wk ⟨rfl, rfl, rfl, rfl, rfl, trivial⟩
  · replace hP := hP.2 hc11
    refine im_iconst (q := 2559) D452_2558 ?_
    exact im_zret (q := 2560) D452_2559 rfl (by decide) hP
set_option maxRecDepth 20000 in
set_option maxHeartbeats 4000000 in
theorem w_law_2560 {g : im_g} {d : Nat} {e : im_E} {M : im_M} {K : im_K} {p4 : Int} (hd : 1 ≤ d) (hP : (g.2 ≤ 2147483647) ∧ (0 ≤ (p4 + 1) ∧ (p4 + 1) < g.2) ∧ im_T g (d - 1) 257 0 [some (.ref 0), some (vI (scr g (p4 + 1))), some (.ref 7081), none] [] e M (im_ri (fun x6 e4 M3 => ∃ ex5 : im_E, e4 = e ++ ex5 ∧ im_T g (d - 1) 451 0 [some (.ref 6952), some (vI (scr g (p4 + 1))), none, none, none] [] (e ++ ex5) M3 (im_ri (fun x10 e_ M7 => (e ++ ex5) = e_ ∧ im_T g (d - 1) 262 0 [some (.ref 6952)] [] (e ++ ex5) M7 (im_ri (fun x14 e_ M11 => (e ++ ex5) = e_ ∧ (im_i32 x14) ∧ (im_i32 x6) ∧ ((((x14 = x6 → ((x6 = 0 → (im_i32 x10) ∧ ((¬ (M11 7081 0) = x10 → K (.inl (some (vI 0))) (e ++ ex5) M11))))) ∧ (¬ x14 = x6 → K (.inl (some (vI 0))) (e ++ ex5) M11))) ∧ ((((x14 = x6) ∧ (¬ x6 = 0)) ∨ ((x14 = x6) ∧ (x6 = 0) ∧ ((M11 7081 0) = x10))) → im_T g d 452 23 [some (.float 200), some (.ref 0), some (.ref 6952), some (.ref 7081), some (vI (p4 + 6)), none, none, none] [] (e ++ ex5) M11 K))))))))) : im_T g d 452 2560 [some (.float 200), some (.ref 0), some (.ref 6952), some (.ref 7081), some (vI p4), none, none, none] [] e M K := by
  refine im_ld (q := 2561) (i := 1) D452_2560 rfl rfl rfl ?_
  refine im_ld (q := 2562) (i := 0) D452_2561 rfl rfl rfl ?_
  refine im_ld (q := 2564) (i := 4) D452_2562 rfl rfl rfl ?_
  refine im_iconst (q := 2565) D452_2564 ?_
  refine im_iadd (q := 2566) D452_2565 ?_
  obtain ⟨hg1, hP⟩ := hP
  obtain ⟨hg2, hP⟩ := hP
  refine im_scld (q := 2567) D452_2566 hg1 hg2.1 hg2.2 ?_
  refine im_ld (q := 2568) (i := 3) D452_2567 rfl rfl rfl ?_
  refine im_callS (q := 2571) (kd := 0) (y := 257) (n := 3) (z := 0) (vs := [.ref 0, vI (scr g (p4 + 1)), .ref 7081]) (r := []) (L2 := [some (.ref 0), some (vI (scr g (p4 + 1))), some (.ref 7081), none]) D452_2568 rfl (im_cal cn_452 cl_13_261) (Or.inl rfl) rfl rfl rfl rfl rfl hd ⟨rfl, rfl, rfl, trivial⟩ ?_
  refine hP.mono ?_
  rintro _ e4 M3 ⟨x6, rfl, ex5, rfl, hP⟩
  refine im_bkS ?_
  refine im_st1 (q := 2573) (i := 5) (L' := [some (.float 200), some (.ref 0), some (.ref 6952), some (.ref 7081), some (vI p4), some (vI x6), none, none]) D452_2571 (Or.inr rfl) (Nat.le_of_ble_eq_true rfl) rfl ?_
  refine im_ld (q := 2574) (i := 2) D452_2573 rfl rfl rfl ?_
  refine im_ld (q := 2575) (i := 0) D452_2574 rfl rfl rfl ?_
  refine im_ld (q := 2577) (i := 4) D452_2575 rfl rfl rfl ?_
  refine im_iconst (q := 2578) D452_2577 ?_
  refine im_iadd (q := 2579) D452_2578 ?_
  refine im_scld (q := 2580) D452_2579 hg1 hg2.1 hg2.2 ?_
  refine im_callV (q := 2583) (kd := 1) (y := 451) (n := 1) (ci := 12) (a := 6952) (vs := [.ref 6952, vI (scr g (p4 + 1))]) (r := []) (L2 := [some (.ref 6952), some (vI (scr g (p4 + 1))), none, none, none]) D452_2580 (im_cal cn_452 cl_13_263) (Or.inl rfl) rfl sf_6952 rfl rfl rfl rfl hd ⟨rfl, rfl, trivial⟩ ?_
  refine hP.mono ?_
  rintro _ e8 M7 ⟨x10, rfl, rfl, hP⟩
  refine im_bkS ?_
  refine im_st1 (q := 2585) (i := 6) (L' := [some (.float 200), some (.ref 0), some (.ref 6952), some (.ref 7081), some (vI p4), some (vI x6), some (vI x10), none]) D452_2583 (Or.inr rfl) (Nat.le_of_ble_eq_true rfl) rfl ?_
  refine im_ld (q := 2586) (i := 2) D452_2585 rfl rfl rfl ?_
  refine im_callV (q := 2589) (kd := 1) (y := 262) (n := 0) (ci := 12) (a := 6952) (vs := [.ref 6952]) (r := []) (L2 := [some (.ref 6952)]) D452_2586 (im_cal cn_452 cl_13_140) (Or.inl rfl) rfl sf_6952 rfl rfl rfl rfl hd ⟨rfl, trivial⟩ ?_
  refine hP.mono ?_
  rintro _ e12 M11 ⟨x14, rfl, rfl, hP⟩
  refine im_bkS ?_
  refine im_ld (q := 2591) (i := 5) D452_2589 rfl rfl rfl ?_
  obtain ⟨hg15, hP⟩ := hP
  obtain ⟨hg16, hP⟩ := hP
  obtain ⟨hP, hJ22⟩ := hP
  have kJ23 : (((x14 = x6) ∧ (¬ x6 = 0)) ∨ ((x14 = x6) ∧ (x6 = 0) ∧ ((M11 7081 0) = x10))) → im_T g d 452 2613 [some (.float 200), some (.ref 0), some (.ref 6952), some (.ref 7081), some (vI p4), none, none, none] [] (e ++ ex5) M11 K := by
    intro  hx24
    have hP := hJ22  hx24
    refine im_goto (q := 2616) (t := 2616) D452_2613 rfl ?_
    refine im_iinc (q := 2619) (i := 4) (L' := [some (.float 200), some (.ref 0), some (.ref 6952), some (.ref 7081), some (vI (p4 + 6)), none, none, none]) D452_2616 rfl (Nat.le_of_ble_eq_true rfl) rfl ?_
    refine im_goto (q := 2622) (t := 23) D452_2619 rfl ?_
    exact hP.wk ⟨rfl, rfl, rfl, rfl, rfl, trivial⟩
  refine im_icmp (q := 2594) (t := 2596) D452_2591 rfl hg15 hg16 (fun hc17 => ?_) (fun hc17 => ?_)
  · replace hP := hP.1 hc17
    refine im_ld (q := 2598) (i := 5) D452_2596 rfl rfl rfl ?_
    refine im_ifc (q := 2601) (t := 2613) D452_2598 rfl hg16 (fun hc18 => ?_) (fun hc18 => ?_)
    · exact (kJ23  (Or.inl ⟨hc17, hc18⟩)).wk ⟨rfl, rfl, rfl, rfl, rfl, trivial⟩
    · replace hP := hP (Decidable.not_not.mp hc18)
      refine im_ld (q := 2602) (i := 3) D452_2601 rfl rfl rfl ?_
      refine im_iconst (q := 2603) D452_2602 ?_
      refine im_rng (j := 0) sf_7081 (by decide) (by decide) (fun hr19 => ?_)
      refine im_lald (q := 2604) D452_2603 sf_7081 (by decide) (by decide) (by decide) rfl ?_
      refine im_ld (q := 2606) (i := 6) D452_2604 rfl rfl rfl ?_
      obtain ⟨hg20, hP⟩ := hP
      refine im_i2l (q := 2607) D452_2606 hg20 ?_
      refine im_lif (q := 2608) (q2 := 2611) (t := 2613) D452_2607 D452_2608 rfl hr19 (im_32_64 hg20) (fun hc21 => ?_) (fun hc21 => ?_)
      · exact (kJ23  (Or.inr ⟨hc17, (Decidable.not_not.mp hc18), hc21⟩)).wk ⟨rfl, rfl, rfl, rfl, rfl, trivial⟩
      · replace hP := hP hc21
        refine im_iconst (q := 2612) D452_2611 ?_
        exact im_zret (q := 2613) D452_2612 rfl (by decide) hP
  · replace hP := hP.2 hc17
    refine im_iconst (q := 2595) D452_2594 ?_
    exact im_zret (q := 2596) D452_2595 rfl (by decide) hP
