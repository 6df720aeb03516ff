/-! THE LAW: its blocks -/
set_option maxRecDepth 20000 in
set_option maxHeartbeats 4000000 in
theorem w_law_907 {g : im_g} {d : Nat} {e : im_E} {M : im_M} {K : im_K} {p4 : Int} (hd : 1 ≤ d) (hP : (g.2 ≤ 2147483647) ∧ (0 ≤ (p4 + 1) ∧ (p4 + 1) < g.2) ∧ (0 ≤ (p4 + 2) ∧ (p4 + 2) < g.2) ∧ (0 ≤ (p4 + 3) ∧ (p4 + 3) < g.2) ∧ (0 ≤ (p4 + 4) ∧ (p4 + 4) < g.2) ∧ im_T g (d - 1) 200 0 [some (.ref 0), some (vI (scr g (p4 + 1))), some (vI (scr g (p4 + 2))), some (vL (xlor (xlshl (scr g (p4 + 3)) 32) (xland (scr g (p4 + 4)) 4294967295))), none, some (.ref 7081), none] [] e M (im_ri (fun x9 e7 M6 => ∃ ex8 : im_E, e7 = e ++ ex8 ∧ im_T g (d - 1) 342 0 [some (.ref 6952), some (vI (scr g (p4 + 1))), some (vI (scr g (p4 + 2))), some (vL (xlor (xlshl (scr g (p4 + 3)) 32) (xland (scr g (p4 + 4)) 4294967295))), none, none, none] [] (e ++ ex8) M6 (im_ri (fun x13 e_ M10 => (e ++ ex8) = e_ ∧ im_T g (d - 1) 262 0 [some (.ref 6952)] [] (e ++ ex8) M10 (im_ri (fun x17 e_ M14 => (e ++ ex8) = e_ ∧ (im_i32 x17) ∧ (im_i32 x9) ∧ ((((x17 = x9 → ((x9 = 0 → (im_i32 x13) ∧ ((¬ (M14 7081 0) = x13 → K (.inl (some (vI 0))) (e ++ ex8) M14))))) ∧ (¬ x17 = x9 → K (.inl (some (vI 0))) (e ++ ex8) M14))) ∧ ((((x17 = x9) ∧ (¬ x9 = 0)) ∨ ((x17 = x9) ∧ (x9 = 0) ∧ ((M14 7081 0) = x13))) → im_T g d 452 23 [some (.float 200), some (.ref 0), some (.ref 6952), some (.ref 7081), some (vI (p4 + 6)), none, none, none] [] (e ++ ex8) M14 K))))))))) : im_T g d 452 907 [some (.float 200), some (.ref 0), some (.ref 6952), some (.ref 7081), some (vI p4), none, none, none] [] e M K := by
  refine im_ld (q := 908) (i := 1) D452_907 rfl rfl rfl ?_
  refine im_ld (q := 909) (i := 0) D452_908 rfl rfl rfl ?_
  refine im_ld (q := 911) (i := 4) D452_909 rfl rfl rfl ?_
  refine im_iconst (q := 912) D452_911 ?_
  refine im_iadd (q := 913) D452_912 ?_
  obtain ⟨hg1, hP⟩ := hP
  obtain ⟨hg2, hP⟩ := hP
  refine im_scld (q := 914) D452_913 hg1 hg2.1 hg2.2 ?_
  refine im_ld (q := 915) (i := 0) D452_914 rfl rfl rfl ?_
  refine im_ld (q := 917) (i := 4) D452_915 rfl rfl rfl ?_
  refine im_iconst (q := 918) D452_917 ?_
  refine im_iadd (q := 919) D452_918 ?_
  obtain ⟨hg3, hP⟩ := hP
  refine im_scld (q := 920) D452_919 hg1 hg3.1 hg3.2 ?_
  refine im_ld (q := 921) (i := 0) D452_920 rfl rfl rfl ?_
  refine im_ld (q := 923) (i := 4) D452_921 rfl rfl rfl ?_
  refine im_iconst (q := 924) D452_923 ?_
  refine im_iadd (q := 925) D452_924 ?_
  obtain ⟨hg4, hP⟩ := hP
  refine im_scld (q := 926) D452_925 hg1 hg4.1 hg4.2 ?_
  refine im_i2l (q := 927) D452_926 (scr_r _ _) ?_
  refine im_bipush (q := 929) D452_927 rfl ?_
  refine im_lshl (q := 930) D452_929 ?_
  refine im_ld (q := 931) (i := 0) D452_930 rfl rfl rfl ?_
  refine im_ld (q := 933) (i := 4) D452_931 rfl rfl rfl ?_
  refine im_iconst (q := 934) D452_933 ?_
  refine im_iadd (q := 935) D452_934 ?_
  obtain ⟨hg5, hP⟩ := hP
  refine im_scld (q := 936) D452_935 hg1 hg5.1 hg5.2 ?_
  refine im_i2l (q := 937) D452_936 (scr_r _ _) ?_
  refine im_ldc2 (q := 940) (n := 4294967295) D452_937 rfl ?_
  refine im_land (q := 941) D452_940 ?_
  refine im_lor (q := 942) D452_941 ?_
  refine im_ld (q := 943) (i := 3) D452_942 rfl rfl rfl ?_
  refine im_callS (q := 946) (kd := 0) (y := 200) (n := 5) (z := 0) (vs := [.ref 0, vI (scr g (p4 + 1)), vI (scr g (p4 + 2)), vL (xlor (xlshl (scr g (p4 + 3)) 32) (xland (scr g (p4 + 4)) 4294967295)), .ref 7081]) (r := []) (L2 := [some (.ref 0), some (vI (scr g (p4 + 1))), some (vI (scr g (p4 + 2))), some (vL (xlor (xlshl (scr g (p4 + 3)) 32) (xland (scr g (p4 + 4)) 4294967295))), none, some (.ref 7081), none]) D452_943 rfl (im_cal cn_452 cl_13_184) (Or.inl rfl) rfl rfl rfl rfl rfl hd ⟨rfl, rfl, rfl, rfl, rfl, trivial⟩ ?_
  refine hP.mono ?_
  rintro _ e7 M6 ⟨x9, rfl, ex8, rfl, hP⟩
  refine im_bkS ?_
  refine im_st1 (q := 948) (i := 5) (L' := [some (.float 200), some (.ref 0), some (.ref 6952), some (.ref 7081), some (vI p4), some (vI x9), none, none]) D452_946 (Or.inr rfl) (Nat.le_of_ble_eq_true rfl) rfl ?_
  refine im_ld (q := 949) (i := 2) D452_948 rfl rfl rfl ?_
  refine im_ld (q := 950) (i := 0) D452_949 rfl rfl rfl ?_
  refine im_ld (q := 952) (i := 4) D452_950 rfl rfl rfl ?_
  refine im_iconst (q := 953) D452_952 ?_
  refine im_iadd (q := 954) D452_953 ?_
  refine im_scld (q := 955) D452_954 hg1 hg2.1 hg2.2 ?_
  refine im_ld (q := 956) (i := 0) D452_955 rfl rfl rfl ?_
  refine im_ld (q := 958) (i := 4) D452_956 rfl rfl rfl ?_
  refine im_iconst (q := 959) D452_958 ?_
  refine im_iadd (q := 960) D452_959 ?_
  refine im_scld (q := 961) D452_960 hg1 hg3.1 hg3.2 ?_
  refine im_ld (q := 962) (i := 0) D452_961 rfl rfl rfl ?_
  refine im_ld (q := 964) (i := 4) D452_962 rfl rfl rfl ?_
  refine im_iconst (q := 965) D452_964 ?_
  refine im_iadd (q := 966) D452_965 ?_
  refine im_scld (q := 967) D452_966 hg1 hg4.1 hg4.2 ?_
  refine im_i2l (q := 968) D452_967 (scr_r _ _) ?_
  refine im_bipush (q := 970) D452_968 rfl ?_
  refine im_lshl (q := 971) D452_970 ?_
  refine im_ld (q := 972) (i := 0) D452_971 rfl rfl rfl ?_
  refine im_ld (q := 974) (i := 4) D452_972 rfl rfl rfl ?_
  refine im_iconst (q := 975) D452_974 ?_
  refine im_iadd (q := 976) D452_975 ?_
  refine im_scld (q := 977) D452_976 hg1 hg5.1 hg5.2 ?_
  refine im_i2l (q := 978) D452_977 (scr_r _ _) ?_
  refine im_ldc2 (q := 981) (n := 4294967295) D452_978 rfl ?_
  refine im_land (q := 982) D452_981 ?_
  refine im_lor (q := 983) D452_982 ?_
  refine im_callV (q := 986) (kd := 1) (y := 342) (n := 3) (ci := 12) (a := 6952) (vs := [.ref 6952, vI (scr g (p4 + 1)), vI (scr g (p4 + 2)), vL (xlor (xlshl (scr g (p4 + 3)) 32) (xland (scr g (p4 + 4)) 4294967295))]) (r := []) (L2 := [some (.ref 6952), some (vI (scr g (p4 + 1))), some (vI (scr g (p4 + 2))), some (vL (xlor (xlshl (scr g (p4 + 3)) 32) (xland (scr g (p4 + 4)) 4294967295))), none, none, none]) D452_983 (im_cal cn_452 cl_13_187) (Or.inl rfl) rfl sf_6952 rfl rfl rfl rfl hd ⟨rfl, rfl, rfl, rfl, trivial⟩ ?_
  refine hP.mono ?_
  rintro _ e11 M10 ⟨x13, rfl, rfl, hP⟩
  refine im_bkS ?_
  refine im_st1 (q := 988) (i := 6) (L' := [some (.float 200), some (.ref 0), some (.ref 6952), some (.ref 7081), some (vI p4), some (vI x9), some (vI x13), none]) D452_986 (Or.inr rfl) (Nat.le_of_ble_eq_true rfl) rfl ?_
  refine im_ld (q := 989) (i := 2) D452_988 rfl rfl rfl ?_
  refine im_callV (q := 992) (kd := 1) (y := 262) (n := 0) (ci := 12) (a := 6952) (vs := [.ref 6952]) (r := []) (L2 := [some (.ref 6952)]) D452_989 (im_cal cn_452 cl_13_140) (Or.inl rfl) rfl sf_6952 rfl rfl rfl rfl hd ⟨rfl, trivial⟩ ?_
  refine hP.mono ?_
  rintro _ e15 M14 ⟨x17, rfl, rfl, hP⟩
  refine im_bkS ?_
  refine im_ld (q := 994) (i := 5) D452_992 rfl rfl rfl ?_
  obtain ⟨hg18, hP⟩ := hP
  obtain ⟨hg19, hP⟩ := hP
  obtain ⟨hP, hJ25⟩ := hP
  have kJ26 : (((x17 = x9) ∧ (¬ x9 = 0)) ∨ ((x17 = x9) ∧ (x9 = 0) ∧ ((M14 7081 0) = x13))) → im_T g d 452 1016 [some (.float 200), some (.ref 0), some (.ref 6952), some (.ref 7081), some (vI p4), none, none, none] [] (e ++ ex8) M14 K := by
    intro  hx27
    have hP := hJ25  hx27
    refine im_goto (q := 1019) (t := 2616) D452_1016 rfl ?_
    refine im_iinc (q := 2619) (i := 4) (L' := [some (.float 200), some (.ref 0), some (.ref 6952), some (.ref 7081), some (vI (p4 + 6)), none, none, none]) D452_2616 rfl (Nat.le_of_ble_eq_true rfl) rfl ?_
    refine im_goto (q := 2622) (t := 23) D452_2619 rfl ?_
    exact hP.wk ⟨rfl, rfl, rfl, rfl, rfl, trivial⟩
  refine im_icmp (q := 997) (t := 999) D452_994 rfl hg18 hg19 (fun hc20 => ?_) (fun hc20 => ?_)
  · replace hP := hP.1 hc20
    refine im_ld (q := 1001) (i := 5) D452_999 rfl rfl rfl ?_
    refine im_ifc (q := 1004) (t := 1016) D452_1001 rfl hg19 (fun hc21 => ?_) (fun hc21 => ?_)
    · exact (kJ26  (Or.inl ⟨hc20, hc21⟩)).wk ⟨rfl, rfl, rfl, rfl, rfl, trivial⟩
    · replace hP := hP (Decidable.not_not.mp hc21)
      refine im_ld (q := 1005) (i := 3) D452_1004 rfl rfl rfl ?_
      refine im_iconst (q := 1006) D452_1005 ?_
      refine im_rng (j := 0) sf_7081 (by decide) (by decide) (fun hr22 => ?_)
      refine im_lald (q := 1007) D452_1006 sf_7081 (by decide) (by decide) (by decide) rfl ?_
      refine im_ld (q := 1009) (i := 6) D452_1007 rfl rfl rfl ?_
      obtain ⟨hg23, hP⟩ := hP
      refine im_i2l (q := 1010) D452_1009 hg23 ?_
      refine im_lif (q := 1011) (q2 := 1014) (t := 1016) D452_1010 D452_1011 rfl hr22 (im_32_64 hg23) (fun hc24 => ?_) (fun hc24 => ?_)
      · exact (kJ26  (Or.inr ⟨hc20, (Decidable.not_not.mp hc21), hc24⟩)).wk ⟨rfl, rfl, rfl, rfl, rfl, trivial⟩
      · replace hP := hP hc24
        refine im_iconst (q := 1015) D452_1014 ?_
        exact im_zret (q := 1016) D452_1015 rfl (by decide) hP
  · replace hP := hP.2 hc20
    refine im_iconst (q := 998) D452_997 ?_
    exact im_zret (q := 999) D452_998 rfl (by decide) hP
set_option maxRecDepth 20000 in
set_option maxHeartbeats 4000000 in
theorem w_law_1019 {g : im_g} {d : Nat} {e : im_E} {M : im_M} {K : im_K} {p4 : Int} (hd : 1 ≤ d) (hP : (g.2 ≤ 2147483647) ∧ (0 ≤ (p4 + 1) ∧ (p4 + 1) < g.2) ∧ im_T g (d - 1) 202 0 [some (.ref 0), some (vI (scr g (p4 + 1))), some (.ref 7081), none] [] e M (im_ri (fun x6 e4 M3 => ∃ ex5 : im_E, e4 = e ++ ex5 ∧ im_T g (d - 1) 347 0 [some (.ref 6952), some (vI (scr g (p4 + 1))), none] [] (e ++ ex5) M3 (im_ri (fun x10 e_ M7 => (e ++ ex5) = e_ ∧ im_T g (d - 1) 262 0 [some (.ref 6952)] [] (e ++ ex5) M7 (im_ri (fun x14 e_ M11 => (e ++ ex5) = e_ ∧ (im_i32 x14) ∧ (im_i32 x6) ∧ ((((x14 = x6 → ((x6 = 0 → (im_i32 x10) ∧ ((¬ (M11 7081 0) = x10 → K (.inl (some (vI 0))) (e ++ ex5) M11))))) ∧ (¬ x14 = x6 → K (.inl (some (vI 0))) (e ++ ex5) M11))) ∧ ((((x14 = x6) ∧ (¬ x6 = 0)) ∨ ((x14 = x6) ∧ (x6 = 0) ∧ ((M11 7081 0) = x10))) → im_T g d 452 23 [some (.float 200), some (.ref 0), some (.ref 6952), some (.ref 7081), some (vI (p4 + 6)), none, none, none] [] (e ++ ex5) M11 K))))))))) : im_T g d 452 1019 [some (.float 200), some (.ref 0), some (.ref 6952), some (.ref 7081), some (vI p4), none, none, none] [] e M K := by
  refine im_ld (q := 1020) (i := 1) D452_1019 rfl rfl rfl ?_
  refine im_ld (q := 1021) (i := 0) D452_1020 rfl rfl rfl ?_
  refine im_ld (q := 1023) (i := 4) D452_1021 rfl rfl rfl ?_
  refine im_iconst (q := 1024) D452_1023 ?_
  refine im_iadd (q := 1025) D452_1024 ?_
  obtain ⟨hg1, hP⟩ := hP
  obtain ⟨hg2, hP⟩ := hP
  refine im_scld (q := 1026) D452_1025 hg1 hg2.1 hg2.2 ?_
  refine im_ld (q := 1027) (i := 3) D452_1026 rfl rfl rfl ?_
  refine im_callS (q := 1030) (kd := 0) (y := 202) (n := 3) (z := 0) (vs := [.ref 0, vI (scr g (p4 + 1)), .ref 7081]) (r := []) (L2 := [some (.ref 0), some (vI (scr g (p4 + 1))), some (.ref 7081), none]) D452_1027 rfl (im_cal cn_452 cl_13_188) (Or.inl rfl) rfl rfl rfl rfl rfl hd ⟨rfl, rfl, rfl, trivial⟩ ?_
  refine hP.mono ?_
  rintro _ e4 M3 ⟨x6, rfl, ex5, rfl, hP⟩
  refine im_bkS ?_
  refine im_st1 (q := 1032) (i := 5) (L' := [some (.float 200), some (.ref 0), some (.ref 6952), some (.ref 7081), some (vI p4), some (vI x6), none, none]) D452_1030 (Or.inr rfl) (Nat.le_of_ble_eq_true rfl) rfl ?_
  refine im_ld (q := 1033) (i := 2) D452_1032 rfl rfl rfl ?_
  refine im_ld (q := 1034) (i := 0) D452_1033 rfl rfl rfl ?_
  refine im_ld (q := 1036) (i := 4) D452_1034 rfl rfl rfl ?_
  refine im_iconst (q := 1037) D452_1036 ?_
  refine im_iadd (q := 1038) D452_1037 ?_
  refine im_scld (q := 1039) D452_1038 hg1 hg2.1 hg2.2 ?_
  refine im_callV (q := 1042) (kd := 1) (y := 347) (n := 1) (ci := 12) (a := 6952) (vs := [.ref 6952, vI (scr g (p4 + 1))]) (r := []) (L2 := [some (.ref 6952), some (vI (scr g (p4 + 1))), none]) D452_1039 (im_cal cn_452 cl_13_190) (Or.inl rfl) rfl sf_6952 rfl rfl rfl rfl hd ⟨rfl, rfl, trivial⟩ ?_
  refine hP.mono ?_
  rintro _ e8 M7 ⟨x10, rfl, rfl, hP⟩
  refine im_bkS ?_
  refine im_st1 (q := 1044) (i := 6) (L' := [some (.float 200), some (.ref 0), some (.ref 6952), some (.ref 7081), some (vI p4), some (vI x6), some (vI x10), none]) D452_1042 (Or.inr rfl) (Nat.le_of_ble_eq_true rfl) rfl ?_
  refine im_ld (q := 1045) (i := 2) D452_1044 rfl rfl rfl ?_
  refine im_callV (q := 1048) (kd := 1) (y := 262) (n := 0) (ci := 12) (a := 6952) (vs := [.ref 6952]) (r := []) (L2 := [some (.ref 6952)]) D452_1045 (im_cal cn_452 cl_13_140) (Or.inl rfl) rfl sf_6952 rfl rfl rfl rfl hd ⟨rfl, trivial⟩ ?_
  refine hP.mono ?_
  rintro _ e12 M11 ⟨x14, rfl, rfl, hP⟩
  refine im_bkS ?_
  refine im_ld (q := 1050) (i := 5) D452_1048 rfl rfl rfl ?_
  obtain ⟨hg15, hP⟩ := hP
  obtain ⟨hg16, hP⟩ := hP
  obtain ⟨hP, hJ22⟩ := hP
  have kJ23 : (((x14 = x6) ∧ (¬ x6 = 0)) ∨ ((x14 = x6) ∧ (x6 = 0) ∧ ((M11 7081 0) = x10))) → im_T g d 452 1072 [some (.float 200), some (.ref 0), some (.ref 6952), some (.ref 7081), some (vI p4), none, none, none] [] (e ++ ex5) M11 K := by
    intro  hx24
    have hP := hJ22  hx24
    refine im_goto (q := 1075) (t := 2616) D452_1072 rfl ?_
    refine im_iinc (q := 2619) (i := 4) (L' := [some (.float 200), some (.ref 0), some (.ref 6952), some (.ref 7081), some (vI (p4 + 6)), none, none, none]) D452_2616 rfl (Nat.le_of_ble_eq_true rfl) rfl ?_
    refine im_goto (q := 2622) (t := 23) D452_2619 rfl ?_
    exact hP.wk ⟨rfl, rfl, rfl, rfl, rfl, trivial⟩
  refine im_icmp (q := 1053) (t := 1055) D452_1050 rfl hg15 hg16 (fun hc17 => ?_) (fun hc17 => ?_)
  · replace hP := hP.1 hc17
    refine im_ld (q := 1057) (i := 5) D452_1055 rfl rfl rfl ?_
    refine im_ifc (q := 1060) (t := 1072) D452_1057 rfl hg16 (fun hc18 => ?_) (fun hc18 => ?_)
    · exact (kJ23  (Or.inl ⟨hc17, hc18⟩)).wk ⟨rfl, rfl, rfl, rfl, rfl, trivial⟩
    · replace hP := hP (Decidable.not_not.mp hc18)
      refine im_ld (q := 1061) (i := 3) D452_1060 rfl rfl rfl ?_
      refine im_iconst (q := 1062) D452_1061 ?_
      refine im_rng (j := 0) sf_7081 (by decide) (by decide) (fun hr19 => ?_)
      refine im_lald (q := 1063) D452_1062 sf_7081 (by decide) (by decide) (by decide) rfl ?_
      refine im_ld (q := 1065) (i := 6) D452_1063 rfl rfl rfl ?_
      obtain ⟨hg20, hP⟩ := hP
      refine im_i2l (q := 1066) D452_1065 hg20 ?_
      refine im_lif (q := 1067) (q2 := 1070) (t := 1072) D452_1066 D452_1067 rfl hr19 (im_32_64 hg20) (fun hc21 => ?_) (fun hc21 => ?_)
      · exact (kJ23  (Or.inr ⟨hc17, (Decidable.not_not.mp hc18), hc21⟩)).wk ⟨rfl, rfl, rfl, rfl, rfl, trivial⟩
      · replace hP := hP hc21
        refine im_iconst (q := 1071) D452_1070 ?_
        exact im_zret (q := 1072) D452_1071 rfl (by decide) hP
  · replace hP := hP.2 hc17
    refine im_iconst (q := 1054) D452_1053 ?_
    exact im_zret (q := 1055) D452_1054 rfl (by decide) hP
set_option maxRecDepth 20000 in
set_option maxHeartbeats 4000000 in
theorem w_law_1075 {g : im_g} {d : Nat} {e : im_E} {M : im_M} {K : im_K} {p4 : Int} (hd : 1 ≤ d) (hP : (g.2 ≤ 2147483647) ∧ (0 ≤ (p4 + 1) ∧ (p4 + 1) < g.2) ∧ (0 ≤ (p4 + 2) ∧ (p4 + 2) < g.2) ∧ (0 ≤ (p4 + 3) ∧ (p4 + 3) < g.2) ∧ (0 ≤ (p4 + 4) ∧ (p4 + 4) < g.2) ∧ (0 ≤ (p4 + 5) ∧ (p4 + 5) < g.2) ∧ im_T g (d - 1) 204 0 [some (.ref 0), some (vI (scr g (p4 + 1))), some (vL (xlor (xlshl (scr g (p4 + 2)) 32) (xland (scr g (p4 + 3)) 4294967295))), none, some (vL (xlor (xlshl (scr g (p4 + 4)) 32) (xland (scr g (p4 + 5)) 4294967295))), none, some (.ref 7081), none] [] e M (im_ri (fun x10 e8 M7 => ∃ ex9 : im_E, e8 = e ++ ex9 ∧ im_T g (d - 1) 356 0 [some (.ref 6952), some (vI (scr g (p4 + 1))), some (vL (xlor (xlshl (scr g (p4 + 2)) 32) (xland (scr g (p4 + 3)) 4294967295))), none, some (vL (xlor (xlshl (scr g (p4 + 4)) 32) (xland (scr g (p4 + 5)) 4294967295))), none, none] [] (e ++ ex9) M7 (im_ri (fun x14 e_ M11 => (e ++ ex9) = e_ ∧ im_T g (d - 1) 262 0 [some (.ref 6952)] [] (e ++ ex9) M11 (im_ri (fun x18 e_ M15 => (e ++ ex9) = e_ ∧ (im_i32 x18) ∧ (im_i32 x10) ∧ ((((x18 = x10 → ((x10 = 0 → (im_i32 x14) ∧ ((¬ (M15 7081 0) = x14 → K (.inl (some (vI 0))) (e ++ ex9) M15))))) ∧ (¬ x18 = x10 → K (.inl (some (vI 0))) (e ++ ex9) M15))) ∧ ((((x18 = x10) ∧ (¬ x10 = 0)) ∨ ((x18 = x10) ∧ (x10 = 0) ∧ ((M15 7081 0) = x14))) → im_T g d 452 23 [some (.float 200), some (.ref 0), some (.ref 6952), some (.ref 7081), some (vI (p4 + 6)), none, none, none] [] (e ++ ex9) M15 K))))))))) : im_T g d 452 1075 [some (.float 200), some (.ref 0), some (.ref 6952), some (.ref 7081), some (vI p4), none, none, none] [] e M K := by
  refine im_ld (q := 1076) (i := 1) D452_1075 rfl rfl rfl ?_
  refine im_ld (q := 1077) (i := 0) D452_1076 rfl rfl rfl ?_
  refine im_ld (q := 1079) (i := 4) D452_1077 rfl rfl rfl ?_
  refine im_iconst (q := 1080) D452_1079 ?_
  refine im_iadd (q := 1081) D452_1080 ?_
  obtain ⟨hg1, hP⟩ := hP
  obtain ⟨hg2, hP⟩ := hP
  refine im_scld (q := 1082) D452_1081 hg1 hg2.1 hg2.2 ?_
  refine im_ld (q := 1083) (i := 0) D452_1082 rfl rfl rfl ?_
  refine im_ld (q := 1085) (i := 4) D452_1083 rfl rfl rfl ?_
  refine im_iconst (q := 1086) D452_1085 ?_
  refine im_iadd (q := 1087) D452_1086 ?_
  obtain ⟨hg3, hP⟩ := hP
  refine im_scld (q := 1088) D452_1087 hg1 hg3.1 hg3.2 ?_
  refine im_i2l (q := 1089) D452_1088 (scr_r _ _) ?_
  refine im_bipush (q := 1091) D452_1089 rfl ?_
  refine im_lshl (q := 1092) D452_1091 ?_
  refine im_ld (q := 1093) (i := 0) D452_1092 rfl rfl rfl ?_
  refine im_ld (q := 1095) (i := 4) D452_1093 rfl rfl rfl ?_
  refine im_iconst (q := 1096) D452_1095 ?_
  refine im_iadd (q := 1097) D452_1096 ?_
  obtain ⟨hg4, hP⟩ := hP
  refine im_scld (q := 1098) D452_1097 hg1 hg4.1 hg4.2 ?_
  refine im_i2l (q := 1099) D452_1098 (scr_r _ _) ?_
  refine im_ldc2 (q := 1102) (n := 4294967295) D452_1099 rfl ?_
  refine im_land (q := 1103) D452_1102 ?_
  refine im_lor (q := 1104) D452_1103 ?_
  refine im_ld (q := 1105) (i := 0) D452_1104 rfl rfl rfl ?_
  refine im_ld (q := 1107) (i := 4) D452_1105 rfl rfl rfl ?_
  refine im_iconst (q := 1108) D452_1107 ?_
  refine im_iadd (q := 1109) D452_1108 ?_
  obtain ⟨hg5, hP⟩ := hP
  refine im_scld (q := 1110) D452_1109 hg1 hg5.1 hg5.2 ?_
  refine im_i2l (q := 1111) D452_1110 (scr_r _ _) ?_
  refine im_bipush (q := 1113) D452_1111 rfl ?_
  refine im_lshl (q := 1114) D452_1113 ?_
  refine im_ld (q := 1115) (i := 0) D452_1114 rfl rfl rfl ?_
  refine im_ld (q := 1117) (i := 4) D452_1115 rfl rfl rfl ?_
  refine im_iconst (q := 1118) D452_1117 ?_
  refine im_iadd (q := 1119) D452_1118 ?_
  obtain ⟨hg6, hP⟩ := hP
  refine im_scld (q := 1120) D452_1119 hg1 hg6.1 hg6.2 ?_
  refine im_i2l (q := 1121) D452_1120 (scr_r _ _) ?_
  refine im_ldc2 (q := 1124) (n := 4294967295) D452_1121 rfl ?_
  refine im_land (q := 1125) D452_1124 ?_
  refine im_lor (q := 1126) D452_1125 ?_
  refine im_ld (q := 1127) (i := 3) D452_1126 rfl rfl rfl ?_
  refine im_callS (q := 1130) (kd := 0) (y := 204) (n := 5) (z := 0) (vs := [.ref 0, vI (scr g (p4 + 1)), vL (xlor (xlshl (scr g (p4 + 2)) 32) (xland (scr g (p4 + 3)) 4294967295)), vL (xlor (xlshl (scr g (p4 + 4)) 32) (xland (scr g (p4 + 5)) 4294967295)), .ref 7081]) (r := []) (L2 := [some (.ref 0), some (vI (scr g (p4 + 1))), some (vL (xlor (xlshl (scr g (p4 + 2)) 32) (xland (scr g (p4 + 3)) 4294967295))), none, some (vL (xlor (xlshl (scr g (p4 + 4)) 32) (xland (scr g (p4 + 5)) 4294967295))), none, some (.ref 7081), none]) D452_1127 rfl (im_cal cn_452 cl_13_191) (Or.inl rfl) rfl rfl rfl rfl rfl hd ⟨rfl, rfl, rfl, rfl, rfl, trivial⟩ ?_
  refine hP.mono ?_
  rintro _ e8 M7 ⟨x10, rfl, ex9, rfl, hP⟩
  refine im_bkS ?_
  refine im_st1 (q := 1132) (i := 5) (L' := [some (.float 200), some (.ref 0), some (.ref 6952), some (.ref 7081), some (vI p4), some (vI x10), none, none]) D452_1130 (Or.inr rfl) (Nat.le_of_ble_eq_true rfl) rfl ?_
  refine im_ld (q := 1133) (i := 2) D452_1132 rfl rfl rfl ?_
  refine im_ld (q := 1134) (i := 0) D452_1133 rfl rfl rfl ?_
  refine im_ld (q := 1136) (i := 4) D452_1134 rfl rfl rfl ?_
  refine im_iconst (q := 1137) D452_1136 ?_
  refine im_iadd (q := 1138) D452_1137 ?_
  refine im_scld (q := 1139) D452_1138 hg1 hg2.1 hg2.2 ?_
  refine im_ld (q := 1140) (i := 0) D452_1139 rfl rfl rfl ?_
  refine im_ld (q := 1142) (i := 4) D452_1140 rfl rfl rfl ?_
  refine im_iconst (q := 1143) D452_1142 ?_
  refine im_iadd (q := 1144) D452_1143 ?_
  refine im_scld (q := 1145) D452_1144 hg1 hg3.1 hg3.2 ?_
  refine im_i2l (q := 1146) D452_1145 (scr_r _ _) ?_
  refine im_bipush (q := 1148) D452_1146 rfl ?_
  refine im_lshl (q := 1149) D452_1148 ?_
  refine im_ld (q := 1150) (i := 0) D452_1149 rfl rfl rfl ?_
  refine im_ld (q := 1152) (i := 4) D452_1150 rfl rfl rfl ?_
  refine im_iconst (q := 1153) D452_1152 ?_
  refine im_iadd (q := 1154) D452_1153 ?_
  refine im_scld (q := 1155) D452_1154 hg1 hg4.1 hg4.2 ?_
  refine im_i2l (q := 1156) D452_1155 (scr_r _ _) ?_
  refine im_ldc2 (q := 1159) (n := 4294967295) D452_1156 rfl ?_
  refine im_land (q := 1160) D452_1159 ?_
  refine im_lor (q := 1161) D452_1160 ?_
  refine im_ld (q := 1162) (i := 0) D452_1161 rfl rfl rfl ?_
  refine im_ld (q := 1164) (i := 4) D452_1162 rfl rfl rfl ?_
  refine im_iconst (q := 1165) D452_1164 ?_
  refine im_iadd (q := 1166) D452_1165 ?_
  refine im_scld (q := 1167) D452_1166 hg1 hg5.1 hg5.2 ?_
  refine im_i2l (q := 1168) D452_1167 (scr_r _ _) ?_
  refine im_bipush (q := 1170) D452_1168 rfl ?_
  refine im_lshl (q := 1171) D452_1170 ?_
  refine im_ld (q := 1172) (i := 0) D452_1171 rfl rfl rfl ?_
  refine im_ld (q := 1174) (i := 4) D452_1172 rfl rfl rfl ?_
  refine im_iconst (q := 1175) D452_1174 ?_
  refine im_iadd (q := 1176) D452_1175 ?_
  refine im_scld (q := 1177) D452_1176 hg1 hg6.1 hg6.2 ?_
  refine im_i2l (q := 1178) D452_1177 (scr_r _ _) ?_
  refine im_ldc2 (q := 1181) (n := 4294967295) D452_1178 rfl ?_
  refine im_land (q := 1182) D452_1181 ?_
  refine im_lor (q := 1183) D452_1182 ?_
  refine im_callV (q := 1186) (kd := 1) (y := 356) (n := 3) (ci := 12) (a := 6952) (vs := [.ref 6952, vI (scr g (p4 + 1)), vL (xlor (xlshl (scr g (p4 + 2)) 32) (xland (scr g (p4 + 3)) 4294967295)), vL (xlor (xlshl (scr g (p4 + 4)) 32) (xland (scr g (p4 + 5)) 4294967295))]) (r := []) (L2 := [some (.ref 6952), some (vI (scr g (p4 + 1))), some (vL (xlor (xlshl (scr g (p4 + 2)) 32) (xland (scr g (p4 + 3)) 4294967295))), none, some (vL (xlor (xlshl (scr g (p4 + 4)) 32) (xland (scr g (p4 + 5)) 4294967295))), none, none]) D452_1183 (im_cal cn_452 cl_13_194) (Or.inl rfl) rfl sf_6952 rfl rfl rfl rfl hd ⟨rfl, rfl, rfl, rfl, trivial⟩ ?_
  refine hP.mono ?_
  rintro _ e12 M11 ⟨x14, rfl, rfl, hP⟩
  refine im_bkS ?_
  refine im_st1 (q := 1188) (i := 6) (L' := [some (.float 200), some (.ref 0), some (.ref 6952), some (.ref 7081), some (vI p4), some (vI x10), some (vI x14), none]) D452_1186 (Or.inr rfl) (Nat.le_of_ble_eq_true rfl) rfl ?_
  refine im_ld (q := 1189) (i := 2) D452_1188 rfl rfl rfl ?_
  refine im_callV (q := 1192) (kd := 1) (y := 262) (n := 0) (ci := 12) (a := 6952) (vs := [.ref 6952]) (r := []) (L2 := [some (.ref 6952)]) D452_1189 (im_cal cn_452 cl_13_140) (Or.inl rfl) rfl sf_6952 rfl rfl rfl rfl hd ⟨rfl, trivial⟩ ?_
  refine hP.mono ?_
  rintro _ e16 M15 ⟨x18, rfl, rfl, hP⟩
  refine im_bkS ?_
  refine im_ld (q := 1194) (i := 5) D452_1192 rfl rfl rfl ?_
  obtain ⟨hg19, hP⟩ := hP
  obtain ⟨hg20, hP⟩ := hP
  obtain ⟨hP, hJ26⟩ := hP
  have kJ27 : (((x18 = x10) ∧ (¬ x10 = 0)) ∨ ((x18 = x10) ∧ (x10 = 0) ∧ ((M15 7081 0) = x14))) → im_T g d 452 1216 [some (.float 200), some (.ref 0), some (.ref 6952), some (.ref 7081), some (vI p4), none, none, none] [] (e ++ ex9) M15 K := by
    intro  hx28
    have hP := hJ26  hx28
    refine im_goto (q := 1219) (t := 2616) D452_1216 rfl ?_
    refine im_iinc (q := 2619) (i := 4) (L' := [some (.float 200), some (.ref 0), some (.ref 6952), some (.ref 7081), some (vI (p4 + 6)), none, none, none]) D452_2616 rfl (Nat.le_of_ble_eq_true rfl) rfl ?_
    refine im_goto (q := 2622) (t := 23) D452_2619 rfl ?_
    exact hP.wk ⟨rfl, rfl, rfl, rfl, rfl, trivial⟩
  refine im_icmp (q := 1197) (t := 1199) D452_1194 rfl hg19 hg20 (fun hc21 => ?_) (fun hc21 => ?_)
  · replace hP := hP.1 hc21
    refine im_ld (q := 1201) (i := 5) D452_1199 rfl rfl rfl ?_
    refine im_ifc (q := 1204) (t := 1216) D452_1201 rfl hg20 (fun hc22 => ?_) (fun hc22 => ?_)
    · exact (kJ27  (Or.inl ⟨hc21, hc22⟩)).wk ⟨rfl, rfl, rfl, rfl, rfl, trivial⟩
    · replace hP := hP (Decidable.not_not.mp hc22)
      refine im_ld (q := 1205) (i := 3) D452_1204 rfl rfl rfl ?_
      refine im_iconst (q := 1206) D452_1205 ?_
      refine im_rng (j := 0) sf_7081 (by decide) (by decide) (fun hr23 => ?_)
      refine im_lald (q := 1207) D452_1206 sf_7081 (by decide) (by decide) (by decide) rfl ?_
      refine im_ld (q := 1209) (i := 6) D452_1207 rfl rfl rfl ?_
      obtain ⟨hg24, hP⟩ := hP
      refine im_i2l (q := 1210) D452_1209 hg24 ?_
      refine im_lif (q := 1211) (q2 := 1214) (t := 1216) D452_1210 D452_1211 rfl hr23 (im_32_64 hg24) (fun hc25 => ?_) (fun hc25 => ?_)
      · exact (kJ27  (Or.inr ⟨hc21, (Decidable.not_not.mp hc22), hc25⟩)).wk ⟨rfl, rfl, rfl, rfl, rfl, trivial⟩
      · replace hP := hP hc25
        refine im_iconst (q := 1215) D452_1214 ?_
        exact im_zret (q := 1216) D452_1215 rfl (by decide) hP
  · replace hP := hP.2 hc21
    refine im_iconst (q := 1198) D452_1197 ?_
    exact im_zret (q := 1199) D452_1198 rfl (by decide) hP
set_option maxRecDepth 20000 in
set_option maxHeartbeats 4000000 in
theorem w_law_1219 {g : im_g} {d : Nat} {e : im_E} {M : im_M} {K : im_K} {p4 : Int} (hd : 1 ≤ d) (hP : (g.2 ≤ 2147483647) ∧ (0 ≤ (p4 + 1) ∧ (p4 + 1) < g.2) ∧ im_T g (d - 1) 206 0 [some (.ref 0), some (vI (scr g (p4 + 1))), some (.ref 7081), none] [] e M (im_ri (fun x6 e4 M3 => ∃ ex5 : im_E, e4 = e ++ ex5 ∧ im_T g (d - 1) 350 0 [some (.ref 6952), some (vI (scr g (p4 + 1)))] [] (e ++ ex5) M3 (im_ri (fun x10 e_ M7 => (e ++ ex5) = e_ ∧ im_T g (d - 1) 262 0 [some (.ref 6952)] [] (e ++ ex5) M7 (im_ri (fun x14 e_ M11 => (e ++ ex5) = e_ ∧ (im_i32 x14) ∧ (im_i32 x6) ∧ ((((x14 = x6 → ((x6 = 0 → (im_i32 x10) ∧ ((¬ (M11 7081 0) = x10 → K (.inl (some (vI 0))) (e ++ ex5) M11))))) ∧ (¬ x14 = x6 → K (.inl (some (vI 0))) (e ++ ex5) M11))) ∧ ((((x14 = x6) ∧ (¬ x6 = 0)) ∨ ((x14 = x6) ∧ (x6 = 0) ∧ ((M11 7081 0) = x10))) → im_T g d 452 23 [some (.float 200), some (.ref 0), some (.ref 6952), some (.ref 7081), some (vI (p4 + 6)), none, none, none] [] (e ++ ex5) M11 K))))))))) : im_T g d 452 1219 [some (.float 200), some (.ref 0), some (.ref 6952), some (.ref 7081), some (vI p4), none, none, none] [] e M K := by
  refine im_ld (q := 1220) (i := 1) D452_1219 rfl rfl rfl ?_
  refine im_ld (q := 1221) (i := 0) D452_1220 rfl rfl rfl ?_
  refine im_ld (q := 1223) (i := 4) D452_1221 rfl rfl rfl ?_
  refine im_iconst (q := 1224) D452_1223 ?_
  refine im_iadd (q := 1225) D452_1224 ?_
  obtain ⟨hg1, hP⟩ := hP
  obtain ⟨hg2, hP⟩ := hP
  refine im_scld (q := 1226) D452_1225 hg1 hg2.1 hg2.2 ?_
  refine im_ld (q := 1227) (i := 3) D452_1226 rfl rfl rfl ?_
  refine im_callS (q := 1230) (kd := 0) (y := 206) (n := 3) (z := 0) (vs := [.ref 0, vI (scr g (p4 + 1)), .ref 7081]) (r := []) (L2 := [some (.ref 0), some (vI (scr g (p4 + 1))), some (.ref 7081), none]) D452_1227 rfl (im_cal cn_452 cl_13_195) (Or.inl rfl) rfl rfl rfl rfl rfl hd ⟨rfl, rfl, rfl, trivial⟩ ?_
  refine hP.mono ?_
  rintro _ e4 M3 ⟨x6, rfl, ex5, rfl, hP⟩
  refine im_bkS ?_
  refine im_st1 (q := 1232) (i := 5) (L' := [some (.float 200), some (.ref 0), some (.ref 6952), some (.ref 7081), some (vI p4), some (vI x6), none, none]) D452_1230 (Or.inr rfl) (Nat.le_of_ble_eq_true rfl) rfl ?_
  refine im_ld (q := 1233) (i := 2) D452_1232 rfl rfl rfl ?_
  refine im_ld (q := 1234) (i := 0) D452_1233 rfl rfl rfl ?_
  refine im_ld (q := 1236) (i := 4) D452_1234 rfl rfl rfl ?_
  refine im_iconst (q := 1237) D452_1236 ?_
  refine im_iadd (q := 1238) D452_1237 ?_
  refine im_scld (q := 1239) D452_1238 hg1 hg2.1 hg2.2 ?_
  refine im_callV (q := 1242) (kd := 1) (y := 350) (n := 1) (ci := 12) (a := 6952) (vs := [.ref 6952, vI (scr g (p4 + 1))]) (r := []) (L2 := [some (.ref 6952), some (vI (scr g (p4 + 1)))]) D452_1239 (im_cal cn_452 cl_13_197) (Or.inl rfl) rfl sf_6952 rfl rfl rfl rfl hd ⟨rfl, rfl, trivial⟩ ?_
  refine hP.mono ?_
  rintro _ e8 M7 ⟨x10, rfl, rfl, hP⟩
  refine im_bkS ?_
  refine im_st1 (q := 1244) (i := 6) (L' := [some (.float 200), some (.ref 0), some (.ref 6952), some (.ref 7081), some (vI p4), some (vI x6), some (vI x10), none]) D452_1242 (Or.inr rfl) (Nat.le_of_ble_eq_true rfl) rfl ?_
  refine im_ld (q := 1245) (i := 2) D452_1244 rfl rfl rfl ?_
  refine im_callV (q := 1248) (kd := 1) (y := 262) (n := 0) (ci := 12) (a := 6952) (vs := [.ref 6952]) (r := []) (L2 := [some (.ref 6952)]) D452_1245 (im_cal cn_452 cl_13_140) (Or.inl rfl) rfl sf_6952 rfl rfl rfl rfl hd ⟨rfl, trivial⟩ ?_
  refine hP.mono ?_
  rintro _ e12 M11 ⟨x14, rfl, rfl, hP⟩
  refine im_bkS ?_
  refine im_ld (q := 1250) (i := 5) D452_1248 rfl rfl rfl ?_
  obtain ⟨hg15, hP⟩ := hP
  obtain ⟨hg16, hP⟩ := hP
  obtain ⟨hP, hJ22⟩ := hP
  have kJ23 : (((x14 = x6) ∧ (¬ x6 = 0)) ∨ ((x14 = x6) ∧ (x6 = 0) ∧ ((M11 7081 0) = x10))) → im_T g d 452 1272 [some (.float 200), some (.ref 0), some (.ref 6952), some (.ref 7081), some (vI p4), none, none, none] [] (e ++ ex5) M11 K := by
    intro  hx24
    have hP := hJ22  hx24
    refine im_goto (q := 1275) (t := 2616) D452_1272 rfl ?_
    refine im_iinc (q := 2619) (i := 4) (L' := [some (.float 200), some (.ref 0), some (.ref 6952), some (.ref 7081), some (vI (p4 + 6)), none, none, none]) D452_2616 rfl (Nat.le_of_ble_eq_true rfl) rfl ?_
    refine im_goto (q := 2622) (t := 23) D452_2619 rfl ?_
    exact hP.wk ⟨rfl, rfl, rfl, rfl, rfl, trivial⟩
  refine im_icmp (q := 1253) (t := 1255) D452_1250 rfl hg15 hg16 (fun hc17 => ?_) (fun hc17 => ?_)
  · replace hP := hP.1 hc17
    refine im_ld (q := 1257) (i := 5) D452_1255 rfl rfl rfl ?_
    refine im_ifc (q := 1260) (t := 1272) D452_1257 rfl hg16 (fun hc18 => ?_) (fun hc18 => ?_)
    · exact (kJ23  (Or.inl ⟨hc17, hc18⟩)).wk ⟨rfl, rfl, rfl, rfl, rfl, trivial⟩
    · replace hP := hP (Decidable.not_not.mp hc18)
      refine im_ld (q := 1261) (i := 3) D452_1260 rfl rfl rfl ?_
      refine im_iconst (q := 1262) D452_1261 ?_
      refine im_rng (j := 0) sf_7081 (by decide) (by decide) (fun hr19 => ?_)
      refine im_lald (q := 1263) D452_1262 sf_7081 (by decide) (by decide) (by decide) rfl ?_
      refine im_ld (q := 1265) (i := 6) D452_1263 rfl rfl rfl ?_
      obtain ⟨hg20, hP⟩ := hP
      refine im_i2l (q := 1266) D452_1265 hg20 ?_
      refine im_lif (q := 1267) (q2 := 1270) (t := 1272) D452_1266 D452_1267 rfl hr19 (im_32_64 hg20) (fun hc21 => ?_) (fun hc21 => ?_)
      · exact (kJ23  (Or.inr ⟨hc17, (Decidable.not_not.mp hc18), hc21⟩)).wk ⟨rfl, rfl, rfl, rfl, rfl, trivial⟩
      · replace hP := hP hc21
        refine im_iconst (q := 1271) D452_1270 ?_
        exact im_zret (q := 1272) D452_1271 rfl (by decide) hP
  · replace hP := hP.2 hc17
    refine im_iconst (q := 1254) D452_1253 ?_
    exact im_zret (q := 1255) D452_1254 rfl (by decide) hP
set_option maxRecDepth 20000 in
set_option maxHeartbeats 4000000 in
theorem w_law_1275 {g : im_g} {d : Nat} {e : im_E} {M : im_M} {K : im_K} {p4 : Int} (hd : 1 ≤ d) (hP : (g.2 ≤ 2147483647) ∧ (0 ≤ (p4 + 1) ∧ (p4 + 1) < g.2) ∧ (0 ≤ (p4 + 2) ∧ (p4 + 2) < g.2) ∧ im_T g (d - 1) 209 0 [some (.ref 0), some (vI (scr g (p4 + 1))), some (vI (scr g (p4 + 2))), some (.ref 7081), none] [] e M (im_ri (fun x7 e5 M4 => ∃ ex6 : im_E, e5 = e ++ ex6 ∧ im_T g (d - 1) 351 0 [some (.ref 6952), some (vI (scr g (p4 + 1))), some (vI (scr g (p4 + 2)))] [] (e ++ ex6) M4 (im_rl (fun x11 e_ M8 => (e ++ ex6) = e_ ∧ im_T g (d - 1) 262 0 [some (.ref 6952)] [] (e ++ ex6) M8 (im_ri (fun x15 e_ M12 => (e ++ ex6) = e_ ∧ (im_i32 x15) ∧ (im_i32 x7) ∧ ((((x15 = x7 → ((x7 = 0 → (im_i64 x11) ∧ ((¬ (M12 7081 0) = x11 → K (.inl (some (vI 0))) (e ++ ex6) M12))))) ∧ (¬ x15 = x7 → K (.inl (some (vI 0))) (e ++ ex6) M12))) ∧ ((((x15 = x7) ∧ (¬ x7 = 0)) ∨ ((x15 = x7) ∧ (x7 = 0) ∧ ((M12 7081 0) = x11))) → im_T g d 452 23 [some (.float 200), some (.ref 0), some (.ref 6952), some (.ref 7081), some (vI (p4 + 6)), none, none, none] [] (e ++ ex6) M12 K))))))))) : im_T g d 452 1275 [some (.float 200), some (.ref 0), some (.ref 6952), some (.ref 7081), some (vI p4), none, none, none] [] e M K := by
  refine im_ld (q := 1276) (i := 1) D452_1275 rfl rfl rfl ?_
  refine im_ld (q := 1277) (i := 0) D452_1276 rfl rfl rfl ?_
  refine im_ld (q := 1279) (i := 4) D452_1277 rfl rfl rfl ?_
  refine im_iconst (q := 1280) D452_1279 ?_
  refine im_iadd (q := 1281) D452_1280 ?_
  obtain ⟨hg1, hP⟩ := hP
  obtain ⟨hg2, hP⟩ := hP
  refine im_scld (q := 1282) D452_1281 hg1 hg2.1 hg2.2 ?_
  refine im_ld (q := 1283) (i := 0) D452_1282 rfl rfl rfl ?_
  refine im_ld (q := 1285) (i := 4) D452_1283 rfl rfl rfl ?_
  refine im_iconst (q := 1286) D452_1285 ?_
  refine im_iadd (q := 1287) D452_1286 ?_
  obtain ⟨hg3, hP⟩ := hP
  refine im_scld (q := 1288) D452_1287 hg1 hg3.1 hg3.2 ?_
  refine im_ld (q := 1289) (i := 3) D452_1288 rfl rfl rfl ?_
  refine im_callS (q := 1292) (kd := 0) (y := 209) (n := 4) (z := 0) (vs := [.ref 0, vI (scr g (p4 + 1)), vI (scr g (p4 + 2)), .ref 7081]) (r := []) (L2 := [some (.ref 0), some (vI (scr g (p4 + 1))), some (vI (scr g (p4 + 2))), some (.ref 7081), none]) D452_1289 rfl (im_cal cn_452 cl_13_198) (Or.inl rfl) rfl rfl rfl rfl rfl hd ⟨rfl, rfl, rfl, rfl, trivial⟩ ?_
  refine hP.mono ?_
  rintro _ e5 M4 ⟨x7, rfl, ex6, rfl, hP⟩
  refine im_bkS ?_
  refine im_st1 (q := 1294) (i := 5) (L' := [some (.float 200), some (.ref 0), some (.ref 6952), some (.ref 7081), some (vI p4), some (vI x7), none, none]) D452_1292 (Or.inr rfl) (Nat.le_of_ble_eq_true rfl) rfl ?_
  refine im_ld (q := 1295) (i := 2) D452_1294 rfl rfl rfl ?_
  refine im_ld (q := 1296) (i := 0) D452_1295 rfl rfl rfl ?_
  refine im_ld (q := 1298) (i := 4) D452_1296 rfl rfl rfl ?_
  refine im_iconst (q := 1299) D452_1298 ?_
  refine im_iadd (q := 1300) D452_1299 ?_
  refine im_scld (q := 1301) D452_1300 hg1 hg2.1 hg2.2 ?_
  refine im_ld (q := 1302) (i := 0) D452_1301 rfl rfl rfl ?_
  refine im_ld (q := 1304) (i := 4) D452_1302 rfl rfl rfl ?_
  refine im_iconst (q := 1305) D452_1304 ?_
  refine im_iadd (q := 1306) D452_1305 ?_
  refine im_scld (q := 1307) D452_1306 hg1 hg3.1 hg3.2 ?_
  refine im_callV (q := 1310) (kd := 1) (y := 351) (n := 2) (ci := 12) (a := 6952) (vs := [.ref 6952, vI (scr g (p4 + 1)), vI (scr g (p4 + 2))]) (r := []) (L2 := [some (.ref 6952), some (vI (scr g (p4 + 1))), some (vI (scr g (p4 + 2)))]) D452_1307 (im_cal cn_452 cl_13_200) (Or.inl rfl) rfl sf_6952 rfl rfl rfl rfl hd ⟨rfl, rfl, rfl, trivial⟩ ?_
  refine hP.mono ?_
  rintro _ e9 M8 ⟨x11, rfl, rfl, hP⟩
  refine im_bkS ?_
  refine im_st2 (q := 1312) (i := 6) (L' := [some (.float 200), some (.ref 0), some (.ref 6952), some (.ref 7081), some (vI p4), some (vI x7), some (vL x11), none]) D452_1310 (Or.inr rfl) (Nat.le_of_ble_eq_true rfl) rfl ?_
  refine im_ld (q := 1313) (i := 2) D452_1312 rfl rfl rfl ?_
  refine im_callV (q := 1316) (kd := 1) (y := 262) (n := 0) (ci := 12) (a := 6952) (vs := [.ref 6952]) (r := []) (L2 := [some (.ref 6952)]) D452_1313 (im_cal cn_452 cl_13_140) (Or.inl rfl) rfl sf_6952 rfl rfl rfl rfl hd ⟨rfl, trivial⟩ ?_
  refine hP.mono ?_
  rintro _ e13 M12 ⟨x15, rfl, rfl, hP⟩
  refine im_bkS ?_
  refine im_ld (q := 1318) (i := 5) D452_1316 rfl rfl rfl ?_
  obtain ⟨hg16, hP⟩ := hP
  obtain ⟨hg17, hP⟩ := hP
  obtain ⟨hP, hJ23⟩ := hP
  have kJ24 : (((x15 = x7) ∧ (¬ x7 = 0)) ∨ ((x15 = x7) ∧ (x7 = 0) ∧ ((M12 7081 0) = x11))) → im_T g d 452 1339 [some (.float 200), some (.ref 0), some (.ref 6952), some (.ref 7081), some (vI p4), none, none, none] [] (e ++ ex6) M12 K := by
    intro  hx25
    have hP := hJ23  hx25
    refine im_goto (q := 1342) (t := 2616) D452_1339 rfl ?_
    refine im_iinc (q := 2619) (i := 4) (L' := [some (.float 200), some (.ref 0), some (.ref 6952), some (.ref 7081), some (vI (p4 + 6)), none, none, none]) D452_2616 rfl (Nat.le_of_ble_eq_true rfl) rfl ?_
    refine im_goto (q := 2622) (t := 23) D452_2619 rfl ?_
    exact hP.wk ⟨rfl, rfl, rfl, rfl, rfl, trivial⟩
  refine im_icmp (q := 1321) (t := 1323) D452_1318 rfl hg16 hg17 (fun hc18 => ?_) (fun hc18 => ?_)
  · replace hP := hP.1 hc18
    refine im_ld (q := 1325) (i := 5) D452_1323 rfl rfl rfl ?_
    refine im_ifc (q := 1328) (t := 1339) D452_1325 rfl hg17 (fun hc19 => ?_) (fun hc19 => ?_)
    · exact (kJ24  (Or.inl ⟨hc18, hc19⟩)).wk ⟨rfl, rfl, rfl, rfl, rfl, trivial⟩
    · replace hP := hP (Decidable.not_not.mp hc19)
      refine im_ld (q := 1329) (i := 3) D452_1328 rfl rfl rfl ?_
      refine im_iconst (q := 1330) D452_1329 ?_
      refine im_rng (j := 0) sf_7081 (by decide) (by decide) (fun hr20 => ?_)
      refine im_lald (q := 1331) D452_1330 sf_7081 (by decide) (by decide) (by decide) rfl ?_
      refine im_ld (q := 1333) (i := 6) D452_1331 rfl rfl rfl ?_
      obtain ⟨hg21, hP⟩ := hP
      refine im_lif (q := 1334) (q2 := 1337) (t := 1339) D452_1333 D452_1334 rfl hr20 hg21 (fun hc22 => ?_) (fun hc22 => ?_)
      · exact (kJ24  (Or.inr ⟨hc18, (Decidable.not_not.mp hc19), hc22⟩)).wk ⟨rfl, rfl, rfl, rfl, rfl, trivial⟩
      · replace hP := hP hc22
        refine im_iconst (q := 1338) D452_1337 ?_
        exact im_zret (q := 1339) D452_1338 rfl (by decide) hP
  · replace hP := hP.2 hc18
    refine im_iconst (q := 1322) D452_1321 ?_
    exact im_zret (q := 1323) D452_1322 rfl (by decide) hP
set_option maxRecDepth 20000 in
set_option maxHeartbeats 4000000 in
theorem w_law_1342 {g : im_g} {d : Nat} {e : im_E} {M : im_M} {K : im_K} {p4 : Int} (hd : 1 ≤ d) (hP : (g.2 ≤ 2147483647) ∧ (0 ≤ (p4 + 1) ∧ (p4 + 1) < g.2) ∧ (0 ≤ (p4 + 2) ∧ (p4 + 2) < g.2) ∧ (0 ≤ (p4 + 3) ∧ (p4 + 3) < g.2) ∧ im_T g (d - 1) 212 0 [some (.ref 0), some (vI (scr g (p4 + 1))), some (vI (scr g (p4 + 2))), some (vI (scr g (p4 + 3))), some (.ref 7081), none] [] e M (im_ri (fun x8 e6 M5 => ∃ ex7 : im_E, e6 = e ++ ex7 ∧ im_T g (d - 1) 353 0 [some (.ref 6952), some (vI (scr g (p4 + 1))), some (vI (scr g (p4 + 2))), some (vI (scr g (p4 + 3))), none] [] (e ++ ex7) M5 (im_ri (fun x12 e_ M9 => (e ++ ex7) = e_ ∧ im_T g (d - 1) 262 0 [some (.ref 6952)] [] (e ++ ex7) M9 (im_ri (fun x16 e_ M13 => (e ++ ex7) = e_ ∧ (im_i32 x16) ∧ (im_i32 x8) ∧ ((((x16 = x8 → ((x8 = 0 → (im_i32 x12) ∧ ((¬ (M13 7081 0) = x12 → K (.inl (some (vI 0))) (e ++ ex7) M13))))) ∧ (¬ x16 = x8 → K (.inl (some (vI 0))) (e ++ ex7) M13))) ∧ ((((x16 = x8) ∧ (¬ x8 = 0)) ∨ ((x16 = x8) ∧ (x8 = 0) ∧ ((M13 7081 0) = x12))) → im_T g d 452 23 [some (.float 200), some (.ref 0), some (.ref 6952), some (.ref 7081), some (vI (p4 + 6)), none, none, none] [] (e ++ ex7) M13 K))))))))) : im_T g d 452 1342 [some (.float 200), some (.ref 0), some (.ref 6952), some (.ref 7081), some (vI p4), none, none, none] [] e M K := by
  refine im_ld (q := 1343) (i := 1) D452_1342 rfl rfl rfl ?_
  refine im_ld (q := 1344) (i := 0) D452_1343 rfl rfl rfl ?_
  refine im_ld (q := 1346) (i := 4) D452_1344 rfl rfl rfl ?_
  refine im_iconst (q := 1347) D452_1346 ?_
  refine im_iadd (q := 1348) D452_1347 ?_
  obtain ⟨hg1, hP⟩ := hP
  obtain ⟨hg2, hP⟩ := hP
  refine im_scld (q := 1349) D452_1348 hg1 hg2.1 hg2.2 ?_
  refine im_ld (q := 1350) (i := 0) D452_1349 rfl rfl rfl ?_
  refine im_ld (q := 1352) (i := 4) D452_1350 rfl rfl rfl ?_
  refine im_iconst (q := 1353) D452_1352 ?_
  refine im_iadd (q := 1354) D452_1353 ?_
  obtain ⟨hg3, hP⟩ := hP
  refine im_scld (q := 1355) D452_1354 hg1 hg3.1 hg3.2 ?_
  refine im_ld (q := 1356) (i := 0) D452_1355 rfl rfl rfl ?_
  refine im_ld (q := 1358) (i := 4) D452_1356 rfl rfl rfl ?_
  refine im_iconst (q := 1359) D452_1358 ?_
  refine im_iadd (q := 1360) D452_1359 ?_
  obtain ⟨hg4, hP⟩ := hP
  refine im_scld (q := 1361) D452_1360 hg1 hg4.1 hg4.2 ?_
  refine im_ld (q := 1362) (i := 3) D452_1361 rfl rfl rfl ?_
  refine im_callS (q := 1365) (kd := 0) (y := 212) (n := 5) (z := 0) (vs := [.ref 0, vI (scr g (p4 + 1)), vI (scr g (p4 + 2)), vI (scr g (p4 + 3)), .ref 7081]) (r := []) (L2 := [some (.ref 0), some (vI (scr g (p4 + 1))), some (vI (scr g (p4 + 2))), some (vI (scr g (p4 + 3))), some (.ref 7081), none]) D452_1362 rfl (im_cal cn_452 cl_13_201) (Or.inl rfl) rfl rfl rfl rfl rfl hd ⟨rfl, rfl, rfl, rfl, rfl, trivial⟩ ?_
  refine hP.mono ?_
  rintro _ e6 M5 ⟨x8, rfl, ex7, rfl, hP⟩
  refine im_bkS ?_
  refine im_st1 (q := 1367) (i := 5) (L' := [some (.float 200), some (.ref 0), some (.ref 6952), some (.ref 7081), some (vI p4), some (vI x8), none, none]) D452_1365 (Or.inr rfl) (Nat.le_of_ble_eq_true rfl) rfl ?_
  refine im_ld (q := 1368) (i := 2) D452_1367 rfl rfl rfl ?_
  refine im_ld (q := 1369) (i := 0) D452_1368 rfl rfl rfl ?_
  refine im_ld (q := 1371) (i := 4) D452_1369 rfl rfl rfl ?_
  refine im_iconst (q := 1372) D452_1371 ?_
  refine im_iadd (q := 1373) D452_1372 ?_
  refine im_scld (q := 1374) D452_1373 hg1 hg2.1 hg2.2 ?_
  refine im_ld (q := 1375) (i := 0) D452_1374 rfl rfl rfl ?_
  refine im_ld (q := 1377) (i := 4) D452_1375 rfl rfl rfl ?_
  refine im_iconst (q := 1378) D452_1377 ?_
  refine im_iadd (q := 1379) D452_1378 ?_
  refine im_scld (q := 1380) D452_1379 hg1 hg3.1 hg3.2 ?_
  refine im_ld (q := 1381) (i := 0) D452_1380 rfl rfl rfl ?_
  refine im_ld (q := 1383) (i := 4) D452_1381 rfl rfl rfl ?_
  refine im_iconst (q := 1384) D452_1383 ?_
  refine im_iadd (q := 1385) D452_1384 ?_
  refine im_scld (q := 1386) D452_1385 hg1 hg4.1 hg4.2 ?_
  refine im_callV (q := 1389) (kd := 1) (y := 353) (n := 3) (ci := 12) (a := 6952) (vs := [.ref 6952, vI (scr g (p4 + 1)), vI (scr g (p4 + 2)), vI (scr g (p4 + 3))]) (r := []) (L2 := [some (.ref 6952), some (vI (scr g (p4 + 1))), some (vI (scr g (p4 + 2))), some (vI (scr g (p4 + 3))), none]) D452_1386 (im_cal cn_452 cl_13_204) (Or.inl rfl) rfl sf_6952 rfl rfl rfl rfl hd ⟨rfl, rfl, rfl, rfl, trivial⟩ ?_
  refine hP.mono ?_
  rintro _ e10 M9 ⟨x12, rfl, rfl, hP⟩
  refine im_bkS ?_
  refine im_st1 (q := 1391) (i := 6) (L' := [some (.float 200), some (.ref 0), some (.ref 6952), some (.ref 7081), some (vI p4), some (vI x8), some (vI x12), none]) D452_1389 (Or.inr rfl) (Nat.le_of_ble_eq_true rfl) rfl ?_
  refine im_ld (q := 1392) (i := 2) D452_1391 rfl rfl rfl ?_
  refine im_callV (q := 1395) (kd := 1) (y := 262) (n := 0) (ci := 12) (a := 6952) (vs := [.ref 6952]) (r := []) (L2 := [some (.ref 6952)]) D452_1392 (im_cal cn_452 cl_13_140) (Or.inl rfl) rfl sf_6952 rfl rfl rfl rfl hd ⟨rfl, trivial⟩ ?_
  refine hP.mono ?_
  rintro _ e14 M13 ⟨x16, rfl, rfl, hP⟩
  refine im_bkS ?_
  refine im_ld (q := 1397) (i := 5) D452_1395 rfl rfl rfl ?_
  obtain ⟨hg17, hP⟩ := hP
  obtain ⟨hg18, hP⟩ := hP
  obtain ⟨hP, hJ24⟩ := hP
  have kJ25 : (((x16 = x8) ∧ (¬ x8 = 0)) ∨ ((x16 = x8) ∧ (x8 = 0) ∧ ((M13 7081 0) = x12))) → im_T g d 452 1419 [some (.float 200), some (.ref 0), some (.ref 6952), some (.ref 7081), some (vI p4), none, none, none] [] (e ++ ex7) M13 K := by
    intro  hx26
    have hP := hJ24  hx26
    refine im_goto (q := 1422) (t := 2616) D452_1419 rfl ?_
    refine im_iinc (q := 2619) (i := 4) (L' := [some (.float 200), some (.ref 0), some (.ref 6952), some (.ref 7081), some (vI (p4 + 6)), none, none, none]) D452_2616 rfl (Nat.le_of_ble_eq_true rfl) rfl ?_
    refine im_goto (q := 2622) (t := 23) D452_2619 rfl ?_
    exact hP.wk ⟨rfl, rfl, rfl, rfl, rfl, trivial⟩
  refine im_icmp (q := 1400) (t := 1402) D452_1397 rfl hg17 hg18 (fun hc19 => ?_) (fun hc19 => ?_)
  · replace hP := hP.1 hc19
    refine im_ld (q := 1404) (i := 5) D452_1402 rfl rfl rfl ?_
    refine im_ifc (q := 1407) (t := 1419) D452_1404 rfl hg18 (fun hc20 => ?_) (fun hc20 => ?_)
    · exact (kJ25  (Or.inl ⟨hc19, hc20⟩)).wk ⟨rfl, rfl, rfl, rfl, rfl, trivial⟩
    · replace hP := hP (Decidable.not_not.mp hc20)
      refine im_ld (q := 1408) (i := 3) D452_1407 rfl rfl rfl ?_
      refine im_iconst (q := 1409) D452_1408 ?_
      refine im_rng (j := 0) sf_7081 (by decide) (by decide) (fun hr21 => ?_)
      refine im_lald (q := 1410) D452_1409 sf_7081 (by decide) (by decide) (by decide) rfl ?_
      refine im_ld (q := 1412) (i := 6) D452_1410 rfl rfl rfl ?_
      obtain ⟨hg22, hP⟩ := hP
      refine im_i2l (q := 1413) D452_1412 hg22 ?_
      refine im_lif (q := 1414) (q2 := 1417) (t := 1419) D452_1413 D452_1414 rfl hr21 (im_32_64 hg22) (fun hc23 => ?_) (fun hc23 => ?_)
      · exact (kJ25  (Or.inr ⟨hc19, (Decidable.not_not.mp hc20), hc23⟩)).wk ⟨rfl, rfl, rfl, rfl, rfl, trivial⟩
      · replace hP := hP hc23
        refine im_iconst (q := 1418) D452_1417 ?_
        exact im_zret (q := 1419) D452_1418 rfl (by decide) hP
  · replace hP := hP.2 hc19
    refine im_iconst (q := 1401) D452_1400 ?_
    exact im_zret (q := 1402) D452_1401 rfl (by decide) hP
set_option maxRecDepth 20000 in
set_option maxHeartbeats 4000000 in
theorem w_law_1422 {g : im_g} {d : Nat} {e : im_E} {M : im_M} {K : im_K} {p4 : Int} (hd : 1 ≤ d) (hP : (g.2 ≤ 2147483647) ∧ (0 ≤ (p4 + 1) ∧ (p4 + 1) < g.2) ∧ (0 ≤ (p4 + 2) ∧ (p4 + 2) < g.2) ∧ (0 ≤ (p4 + 3) ∧ (p4 + 3) < g.2) ∧ (0 ≤ (p4 + 4) ∧ (p4 + 4) < g.2) ∧ ((∀ x7 : Int, ((((scr g (p4 + 4)) = 0) ∧ x7 = 0) ∨ ((¬ (scr g (p4 + 4)) = 0) ∧ x7 = 1)) → im_T g (d - 1) 216 0 [some (.ref 0), some (vI (scr g (p4 + 1))), some (vI (scr g (p4 + 2))), some (vI (scr g (p4 + 3))), some (vI x7), some (.ref 7081), none] [] e M (im_ri (fun x14 e12 M11 => ∃ ex13 : im_E, e12 = e ++ ex13 ∧ ((∀ x16 : Int, ((((scr g (p4 + 4)) = 0) ∧ x16 = 0) ∨ ((¬ (scr g (p4 + 4)) = 0) ∧ x16 = 1)) → im_T g (d - 1) 355 0 [some (.ref 6952), some (vI (scr g (p4 + 1))), some (vI (scr g (p4 + 2))), some (vI (scr g (p4 + 3))), some (vI x16), none] [] (e ++ ex13) M11 (im_rl (fun x23 e_ M20 => (e ++ ex13) = e_ ∧ im_T g (d - 1) 262 0 [some (.ref 6952)] [] (e ++ ex13) M20 (im_ri (fun x27 e_ M24 => (e ++ ex13) = e_ ∧ (im_i32 x27) ∧ (im_i32 x14) ∧ ((((x27 = x14 → ((x14 = 0 → (im_i64 x23) ∧ ((¬ (M24 7081 0) = x23 → K (.inl (some (vI 0))) (e ++ ex13) M24))))) ∧ (¬ x27 = x14 → K (.inl (some (vI 0))) (e ++ ex13) M24))) ∧ ((((x27 = x14) ∧ (¬ x14 = 0)) ∨ ((x27 = x14) ∧ (x14 = 0) ∧ ((M24 7081 0) = x23))) → im_T g d 452 23 [some (.float 200), some (.ref 0), some (.ref 6952), some (.ref 7081), some (vI (p4 + 6)), none, none, none] [] (e ++ ex13) M24 K))))))))))))) : im_T g d 452 1422 [some (.float 200), some (.ref 0), some (.ref 6952), some (.ref 7081), some (vI p4), none, none, none] [] e M K := by
  refine im_ld (q := 1423) (i := 1) D452_1422 rfl rfl rfl ?_
  refine im_ld (q := 1424) (i := 0) D452_1423 rfl rfl rfl ?_
  refine im_ld (q := 1426) (i := 4) D452_1424 rfl rfl rfl ?_
  refine im_iconst (q := 1427) D452_1426 ?_
  refine im_iadd (q := 1428) D452_1427 ?_
  obtain ⟨hg1, hP⟩ := hP
  obtain ⟨hg2, hP⟩ := hP
  refine im_scld (q := 1429) D452_1428 hg1 hg2.1 hg2.2 ?_
  refine im_ld (q := 1430) (i := 0) D452_1429 rfl rfl rfl ?_
  refine im_ld (q := 1432) (i := 4) D452_1430 rfl rfl rfl ?_
  refine im_iconst (q := 1433) D452_1432 ?_
  refine im_iadd (q := 1434) D452_1433 ?_
  obtain ⟨hg3, hP⟩ := hP
  refine im_scld (q := 1435) D452_1434 hg1 hg3.1 hg3.2 ?_
  refine im_ld (q := 1436) (i := 0) D452_1435 rfl rfl rfl ?_
  refine im_ld (q := 1438) (i := 4) D452_1436 rfl rfl rfl ?_
  refine im_iconst (q := 1439) D452_1438 ?_
  refine im_iadd (q := 1440) D452_1439 ?_
  obtain ⟨hg4, hP⟩ := hP
  refine im_scld (q := 1441) D452_1440 hg1 hg4.1 hg4.2 ?_
  refine im_ld (q := 1442) (i := 0) D452_1441 rfl rfl rfl ?_
  refine im_ld (q := 1444) (i := 4) D452_1442 rfl rfl rfl ?_
  refine im_iconst (q := 1445) D452_1444 ?_
  refine im_iadd (q := 1446) D452_1445 ?_
  obtain ⟨hg5, hP⟩ := hP
  refine im_scld (q := 1447) D452_1446 hg1 hg5.1 hg5.2 ?_
  have hJ8 := hP
  have kJ9 : ∀ x7 : Int, ((((scr g (p4 + 4)) = 0) ∧ x7 = 0) ∨ ((¬ (scr g (p4 + 4)) = 0) ∧ x7 = 1)) → im_T g d 452 1455 [some (.float 200), some (.ref 0), some (.ref 6952), some (.ref 7081), some (vI p4), none, none, none] [vI x7, vI (scr g (p4 + 3)), vI (scr g (p4 + 2)), vI (scr g (p4 + 1)), .ref 0] e M K := by
    intro x7 hx10
    have hP := hJ8 x7 hx10
    refine im_ld (q := 1456) (i := 3) D452_1455 rfl rfl rfl ?_
    refine im_callS (q := 1459) (kd := 0) (y := 216) (n := 6) (z := 0) (vs := [.ref 0, vI (scr g (p4 + 1)), vI (scr g (p4 + 2)), vI (scr g (p4 + 3)), vI x7, .ref 7081]) (r := []) (L2 := [some (.ref 0), some (vI (scr g (p4 + 1))), some (vI (scr g (p4 + 2))), some (vI (scr g (p4 + 3))), some (vI x7), some (.ref 7081), none]) D452_1456 rfl (im_cal cn_452 cl_13_205) (Or.inl rfl) rfl rfl rfl rfl rfl hd ⟨rfl, rfl, rfl, rfl, rfl, rfl, trivial⟩ ?_
    refine hP.mono ?_
    rintro _ e12 M11 ⟨x14, rfl, ex13, rfl, hP⟩
    refine im_bkS ?_
    refine im_st1 (q := 1461) (i := 5) (L' := [some (.float 200), some (.ref 0), some (.ref 6952), some (.ref 7081), some (vI p4), some (vI x14), none, none]) D452_1459 (Or.inr rfl) (Nat.le_of_ble_eq_true rfl) rfl ?_
    refine im_ld (q := 1462) (i := 2) D452_1461 rfl rfl rfl ?_
    refine im_ld (q := 1463) (i := 0) D452_1462 rfl rfl rfl ?_
    refine im_ld (q := 1465) (i := 4) D452_1463 rfl rfl rfl ?_
    refine im_iconst (q := 1466) D452_1465 ?_
    refine im_iadd (q := 1467) D452_1466 ?_
    refine im_scld (q := 1468) D452_1467 hg1 hg2.1 hg2.2 ?_
    refine im_ld (q := 1469) (i := 0) D452_1468 rfl rfl rfl ?_
    refine im_ld (q := 1471) (i := 4) D452_1469 rfl rfl rfl ?_
    refine im_iconst (q := 1472) D452_1471 ?_
    refine im_iadd (q := 1473) D452_1472 ?_
    refine im_scld (q := 1474) D452_1473 hg1 hg3.1 hg3.2 ?_
    refine im_ld (q := 1475) (i := 0) D452_1474 rfl rfl rfl ?_
    refine im_ld (q := 1477) (i := 4) D452_1475 rfl rfl rfl ?_
    refine im_iconst (q := 1478) D452_1477 ?_
    refine im_iadd (q := 1479) D452_1478 ?_
    refine im_scld (q := 1480) D452_1479 hg1 hg4.1 hg4.2 ?_
    refine im_ld (q := 1481) (i := 0) D452_1480 rfl rfl rfl ?_
    refine im_ld (q := 1483) (i := 4) D452_1481 rfl rfl rfl ?_
    refine im_iconst (q := 1484) D452_1483 ?_
    refine im_iadd (q := 1485) D452_1484 ?_
    refine im_scld (q := 1486) D452_1485 hg1 hg5.1 hg5.2 ?_
    have hJ17 := hP
    have kJ18 : ∀ x16 : Int, ((((scr g (p4 + 4)) = 0) ∧ x16 = 0) ∨ ((¬ (scr g (p4 + 4)) = 0) ∧ x16 = 1)) → im_T g d 452 1494 [some (.float 200), some (.ref 0), some (.ref 6952), some (.ref 7081), some (vI p4), some (vI x14), none, none] [vI x16, vI (scr g (p4 + 3)), vI (scr g (p4 + 2)), vI (scr g (p4 + 1)), .ref 6952] (e ++ ex13) M11 K := by
      intro x16 hx19
      have hP := hJ17 x16 hx19
      refine im_callV (q := 1497) (kd := 1) (y := 355) (n := 4) (ci := 12) (a := 6952) (vs := [.ref 6952, vI (scr g (p4 + 1)), vI (scr g (p4 + 2)), vI (scr g (p4 + 3)), vI x16]) (r := []) (L2 := [some (.ref 6952), some (vI (scr g (p4 + 1))), some (vI (scr g (p4 + 2))), some (vI (scr g (p4 + 3))), some (vI x16), none]) D452_1494 (im_cal cn_452 cl_13_208) (Or.inl rfl) rfl sf_6952 rfl rfl rfl rfl hd ⟨rfl, rfl, rfl, rfl, rfl, trivial⟩ ?_
      refine hP.mono ?_
      rintro _ e21 M20 ⟨x23, rfl, rfl, hP⟩
      refine im_bkS ?_
      refine im_st2 (q := 1499) (i := 6) (L' := [some (.float 200), some (.ref 0), some (.ref 6952), some (.ref 7081), some (vI p4), some (vI x14), some (vL x23), none]) D452_1497 (Or.inr rfl) (Nat.le_of_ble_eq_true rfl) rfl ?_
      refine im_ld (q := 1500) (i := 2) D452_1499 rfl rfl rfl ?_
      refine im_callV (q := 1503) (kd := 1) (y := 262) (n := 0) (ci := 12) (a := 6952) (vs := [.ref 6952]) (r := []) (L2 := [some (.ref 6952)]) D452_1500 (im_cal cn_452 cl_13_140) (Or.inl rfl) rfl sf_6952 rfl rfl rfl rfl hd ⟨rfl, trivial⟩ ?_
      refine hP.mono ?_
      rintro _ e25 M24 ⟨x27, rfl, rfl, hP⟩
      refine im_bkS ?_
      refine im_ld (q := 1505) (i := 5) D452_1503 rfl rfl rfl ?_
      obtain ⟨hg28, hP⟩ := hP
      obtain ⟨hg29, hP⟩ := hP
      obtain ⟨hP, hJ35⟩ := hP
      have kJ36 : (((x27 = x14) ∧ (¬ x14 = 0)) ∨ ((x27 = x14) ∧ (x14 = 0) ∧ ((M24 7081 0) = x23))) → im_T g d 452 1526 [some (.float 200), some (.ref 0), some (.ref 6952), some (.ref 7081), some (vI p4), none, none, none] [] (e ++ ex13) M24 K := by
        intro  hx37
        have hP := hJ35  hx37
        refine im_goto (q := 1529) (t := 2616) D452_1526 rfl ?_
        refine im_iinc (q := 2619) (i := 4) (L' := [some (.float 200), some (.ref 0), some (.ref 6952), some (.ref 7081), some (vI (p4 + 6)), none, none, none]) D452_2616 rfl (Nat.le_of_ble_eq_true rfl) rfl ?_
        refine im_goto (q := 2622) (t := 23) D452_2619 rfl ?_
        exact hP.wk ⟨rfl, rfl, rfl, rfl, rfl, trivial⟩
      refine im_icmp (q := 1508) (t := 1510) D452_1505 rfl hg28 hg29 (fun hc30 => ?_) (fun hc30 => ?_)
      · replace hP := hP.1 hc30
        refine im_ld (q := 1512) (i := 5) D452_1510 rfl rfl rfl ?_
        refine im_ifc (q := 1515) (t := 1526) D452_1512 rfl hg29 (fun hc31 => ?_) (fun hc31 => ?_)
        · exact (kJ36  (Or.inl ⟨hc30, hc31⟩)).wk ⟨rfl, rfl, rfl, rfl, rfl, trivial⟩
        · replace hP := hP (Decidable.not_not.mp hc31)
          refine im_ld (q := 1516) (i := 3) D452_1515 rfl rfl rfl ?_
          refine im_iconst (q := 1517) D452_1516 ?_
          refine im_rng (j := 0) sf_7081 (by decide) (by decide) (fun hr32 => ?_)
          refine im_lald (q := 1518) D452_1517 sf_7081 (by decide) (by decide) (by decide) rfl ?_
          refine im_ld (q := 1520) (i := 6) D452_1518 rfl rfl rfl ?_
          obtain ⟨hg33, hP⟩ := hP
          refine im_lif (q := 1521) (q2 := 1524) (t := 1526) D452_1520 D452_1521 rfl hr32 hg33 (fun hc34 => ?_) (fun hc34 => ?_)
          · exact (kJ36  (Or.inr ⟨hc30, (Decidable.not_not.mp hc31), hc34⟩)).wk ⟨rfl, rfl, rfl, rfl, rfl, trivial⟩
          · replace hP := hP hc34
            refine im_iconst (q := 1525) D452_1524 ?_
            exact im_zret (q := 1526) D452_1525 rfl (by decide) hP
      · replace hP := hP.2 hc30
        refine im_iconst (q := 1509) D452_1508 ?_
        exact im_zret (q := 1510) D452_1509 rfl (by decide) hP
    refine im_ifc (q := 1489) (t := 1493) D452_1486 rfl (scr_r _ _) (fun hc15 => ?_) (fun hc15 => ?_)
    · refine im_iconst (q := 1494) D452_1493 ?_
      exact (kJ18 (0) (Or.inl ⟨hc15, rfl⟩)).wk ⟨rfl, rfl, rfl, rfl, rfl, rfl, trivial⟩
    · refine im_iconst (q := 1490) D452_1489 ?_
      refine im_goto (q := 1493) (t := 1494) D452_1490 rfl ?_
      exact (kJ18 (1) (Or.inr ⟨hc15, rfl⟩)).wk ⟨rfl, rfl, rfl, rfl, rfl, rfl, trivial⟩
  refine im_ifc (q := 1450) (t := 1454) D452_1447 rfl (scr_r _ _) (fun hc6 => ?_) (fun hc6 => ?_)
  · refine im_iconst (q := 1455) D452_1454 ?_
    exact (kJ9 (0) (Or.inl ⟨hc6, rfl⟩)).wk ⟨rfl, rfl, rfl, rfl, rfl, trivial⟩
  · refine im_iconst (q := 1451) D452_1450 ?_
    refine im_goto (q := 1454) (t := 1455) D452_1451 rfl ?_
    exact (kJ9 (1) (Or.inr ⟨hc6, rfl⟩)).wk ⟨rfl, rfl, rfl, rfl, rfl, trivial⟩
set_option maxRecDepth 20000 in
set_option maxHeartbeats 4000000 in
theorem w_law_1529 {g : im_g} {d : Nat} {e : im_E} {M : im_M} {K : im_K} {p4 : Int} (hd : 1 ≤ d) (hP : (g.2 ≤ 2147483647) ∧ (0 ≤ (p4 + 1) ∧ (p4 + 1) < g.2) ∧ im_T g (d - 1) 218 0 [some (.ref 0), some (vI (scr g (p4 + 1))), some (.ref 7081), none] [] e M (im_ri (fun x6 e4 M3 => ∃ ex5 : im_E, e4 = e ++ ex5 ∧ im_T g (d - 1) 417 0 [some (.ref 6952), some (vI (scr g (p4 + 1)))] [] (e ++ ex5) M3 (im_ri (fun x10 e_ M7 => (e ++ ex5) = e_ ∧ im_T g (d - 1) 262 0 [some (.ref 6952)] [] (e ++ ex5) M7 (im_ri (fun x14 e_ M11 => (e ++ ex5) = e_ ∧ (im_i32 x14) ∧ (im_i32 x6) ∧ ((((x14 = x6 → ((x6 = 0 → (im_i32 x10) ∧ ((¬ (M11 7081 0) = x10 → K (.inl (some (vI 0))) (e ++ ex5) M11))))) ∧ (¬ x14 = x6 → K (.inl (some (vI 0))) (e ++ ex5) M11))) ∧ ((((x14 = x6) ∧ (¬ x6 = 0)) ∨ ((x14 = x6) ∧ (x6 = 0) ∧ ((M11 7081 0) = x10))) → im_T g d 452 23 [some (.float 200), some (.ref 0), some (.ref 6952), some (.ref 7081), some (vI (p4 + 6)), none, none, none] [] (e ++ ex5) M11 K))))))))) : im_T g d 452 1529 [some (.float 200), some (.ref 0), some (.ref 6952), some (.ref 7081), some (vI p4), none, none, none] [] e M K := by
  refine im_ld (q := 1530) (i := 1) D452_1529 rfl rfl rfl ?_
  refine im_ld (q := 1531) (i := 0) D452_1530 rfl rfl rfl ?_
  refine im_ld (q := 1533) (i := 4) D452_1531 rfl rfl rfl ?_
  refine im_iconst (q := 1534) D452_1533 ?_
  refine im_iadd (q := 1535) D452_1534 ?_
  obtain ⟨hg1, hP⟩ := hP
  obtain ⟨hg2, hP⟩ := hP
  refine im_scld (q := 1536) D452_1535 hg1 hg2.1 hg2.2 ?_
  refine im_ld (q := 1537) (i := 3) D452_1536 rfl rfl rfl ?_
  refine im_callS (q := 1540) (kd := 0) (y := 218) (n := 3) (z := 0) (vs := [.ref 0, vI (scr g (p4 + 1)), .ref 7081]) (r := []) (L2 := [some (.ref 0), some (vI (scr g (p4 + 1))), some (.ref 7081), none]) D452_1537 rfl (im_cal cn_452 cl_13_209) (Or.inl rfl) rfl rfl rfl rfl rfl hd ⟨rfl, rfl, rfl, trivial⟩ ?_
  refine hP.mono ?_
  rintro _ e4 M3 ⟨x6, rfl, ex5, rfl, hP⟩
  refine im_bkS ?_
  refine im_st1 (q := 1542) (i := 5) (L' := [some (.float 200), some (.ref 0), some (.ref 6952), some (.ref 7081), some (vI p4), some (vI x6), none, none]) D452_1540 (Or.inr rfl) (Nat.le_of_ble_eq_true rfl) rfl ?_
  refine im_ld (q := 1543) (i := 2) D452_1542 rfl rfl rfl ?_
  refine im_ld (q := 1544) (i := 0) D452_1543 rfl rfl rfl ?_
  refine im_ld (q := 1546) (i := 4) D452_1544 rfl rfl rfl ?_
  refine im_iconst (q := 1547) D452_1546 ?_
  refine im_iadd (q := 1548) D452_1547 ?_
  refine im_scld (q := 1549) D452_1548 hg1 hg2.1 hg2.2 ?_
  refine im_callV (q := 1552) (kd := 1) (y := 417) (n := 1) (ci := 12) (a := 6952) (vs := [.ref 6952, vI (scr g (p4 + 1))]) (r := []) (L2 := [some (.ref 6952), some (vI (scr g (p4 + 1)))]) D452_1549 (im_cal cn_452 cl_13_211) (Or.inl rfl) rfl sf_6952 rfl rfl rfl rfl hd ⟨rfl, rfl, trivial⟩ ?_
  refine hP.mono ?_
  rintro _ e8 M7 ⟨x10, rfl, rfl, hP⟩
  refine im_bkS ?_
  refine im_st1 (q := 1554) (i := 6) (L' := [some (.float 200), some (.ref 0), some (.ref 6952), some (.ref 7081), some (vI p4), some (vI x6), some (vI x10), none]) D452_1552 (Or.inr rfl) (Nat.le_of_ble_eq_true rfl) rfl ?_
  refine im_ld (q := 1555) (i := 2) D452_1554 rfl rfl rfl ?_
  refine im_callV (q := 1558) (kd := 1) (y := 262) (n := 0) (ci := 12) (a := 6952) (vs := [.ref 6952]) (r := []) (L2 := [some (.ref 6952)]) D452_1555 (im_cal cn_452 cl_13_140) (Or.inl rfl) rfl sf_6952 rfl rfl rfl rfl hd ⟨rfl, trivial⟩ ?_
  refine hP.mono ?_
  rintro _ e12 M11 ⟨x14, rfl, rfl, hP⟩
  refine im_bkS ?_
  refine im_ld (q := 1560) (i := 5) D452_1558 rfl rfl rfl ?_
  obtain ⟨hg15, hP⟩ := hP
  obtain ⟨hg16, hP⟩ := hP
  obtain ⟨hP, hJ22⟩ := hP
  have kJ23 : (((x14 = x6) ∧ (¬ x6 = 0)) ∨ ((x14 = x6) ∧ (x6 = 0) ∧ ((M11 7081 0) = x10))) → im_T g d 452 1582 [some (.float 200), some (.ref 0), some (.ref 6952), some (.ref 7081), some (vI p4), none, none, none] [] (e ++ ex5) M11 K := by
    intro  hx24
    have hP := hJ22  hx24
    refine im_goto (q := 1585) (t := 2616) D452_1582 rfl ?_
    refine im_iinc (q := 2619) (i := 4) (L' := [some (.float 200), some (.ref 0), some (.ref 6952), some (.ref 7081), some (vI (p4 + 6)), none, none, none]) D452_2616 rfl (Nat.le_of_ble_eq_true rfl) rfl ?_
    refine im_goto (q := 2622) (t := 23) D452_2619 rfl ?_
    exact hP.wk ⟨rfl, rfl, rfl, rfl, rfl, trivial⟩
  refine im_icmp (q := 1563) (t := 1565) D452_1560 rfl hg15 hg16 (fun hc17 => ?_) (fun hc17 => ?_)
  · replace hP := hP.1 hc17
    refine im_ld (q := 1567) (i := 5) D452_1565 rfl rfl rfl ?_
    refine im_ifc (q := 1570) (t := 1582) D452_1567 rfl hg16 (fun hc18 => ?_) (fun hc18 => ?_)
    · exact (kJ23  (Or.inl ⟨hc17, hc18⟩)).wk ⟨rfl, rfl, rfl, rfl, rfl, trivial⟩
    · replace hP := hP (Decidable.not_not.mp hc18)
      refine im_ld (q := 1571) (i := 3) D452_1570 rfl rfl rfl ?_
      refine im_iconst (q := 1572) D452_1571 ?_
      refine im_rng (j := 0) sf_7081 (by decide) (by decide) (fun hr19 => ?_)
      refine im_lald (q := 1573) D452_1572 sf_7081 (by decide) (by decide) (by decide) rfl ?_
      refine im_ld (q := 1575) (i := 6) D452_1573 rfl rfl rfl ?_
      obtain ⟨hg20, hP⟩ := hP
      refine im_i2l (q := 1576) D452_1575 hg20 ?_
      refine im_lif (q := 1577) (q2 := 1580) (t := 1582) D452_1576 D452_1577 rfl hr19 (im_32_64 hg20) (fun hc21 => ?_) (fun hc21 => ?_)
      · exact (kJ23  (Or.inr ⟨hc17, (Decidable.not_not.mp hc18), hc21⟩)).wk ⟨rfl, rfl, rfl, rfl, rfl, trivial⟩
      · replace hP := hP hc21
        refine im_iconst (q := 1581) D452_1580 ?_
        exact im_zret (q := 1582) D452_1581 rfl (by decide) hP
  · replace hP := hP.2 hc17
    refine im_iconst (q := 1564) D452_1563 ?_
    exact im_zret (q := 1565) D452_1564 rfl (by decide) hP
set_option maxRecDepth 20000 in
set_option maxHeartbeats 4000000 in
theorem w_law_1585 {g : im_g} {d : Nat} {e : im_E} {M : im_M} {K : im_K} {p4 : Int} (hd : 1 ≤ d) (hP : (g.2 ≤ 2147483647) ∧ (0 ≤ (p4 + 1) ∧ (p4 + 1) < g.2) ∧ (0 ≤ (p4 + 2) ∧ (p4 + 2) < g.2) ∧ im_T g (d - 1) 220 0 [some (.ref 0), some (vI (scr g (p4 + 1))), some (vI (scr g (p4 + 2))), some (.ref 7081), none] [] e M (im_ri (fun x7 e5 M4 => ∃ ex6 : im_E, e5 = e ++ ex6 ∧ im_T g (d - 1) 418 0 [some (.ref 6952), some (vI (scr g (p4 + 1))), some (vI (scr g (p4 + 2)))] [] (e ++ ex6) M4 (im_rl (fun x11 e_ M8 => (e ++ ex6) = e_ ∧ im_T g (d - 1) 262 0 [some (.ref 6952)] [] (e ++ ex6) M8 (im_ri (fun x15 e_ M12 => (e ++ ex6) = e_ ∧ (im_i32 x15) ∧ (im_i32 x7) ∧ ((((x15 = x7 → ((x7 = 0 → (im_i64 x11) ∧ ((¬ (M12 7081 0) = x11 → K (.inl (some (vI 0))) (e ++ ex6) M12))))) ∧ (¬ x15 = x7 → K (.inl (some (vI 0))) (e ++ ex6) M12))) ∧ ((((x15 = x7) ∧ (¬ x7 = 0)) ∨ ((x15 = x7) ∧ (x7 = 0) ∧ ((M12 7081 0) = x11))) → im_T g d 452 23 [some (.float 200), some (.ref 0), some (.ref 6952), some (.ref 7081), some (vI (p4 + 6)), none, none, none] [] (e ++ ex6) M12 K))))))))) : im_T g d 452 1585 [some (.float 200), some (.ref 0), some (.ref 6952), some (.ref 7081), some (vI p4), none, none, none] [] e M K := by
  refine im_ld (q := 1586) (i := 1) D452_1585 rfl rfl rfl ?_
  refine im_ld (q := 1587) (i := 0) D452_1586 rfl rfl rfl ?_
  refine im_ld (q := 1589) (i := 4) D452_1587 rfl rfl rfl ?_
  refine im_iconst (q := 1590) D452_1589 ?_
  refine im_iadd (q := 1591) D452_1590 ?_
  obtain ⟨hg1, hP⟩ := hP
  obtain ⟨hg2, hP⟩ := hP
  refine im_scld (q := 1592) D452_1591 hg1 hg2.1 hg2.2 ?_
  refine im_ld (q := 1593) (i := 0) D452_1592 rfl rfl rfl ?_
  refine im_ld (q := 1595) (i := 4) D452_1593 rfl rfl rfl ?_
  refine im_iconst (q := 1596) D452_1595 ?_
  refine im_iadd (q := 1597) D452_1596 ?_
  obtain ⟨hg3, hP⟩ := hP
  refine im_scld (q := 1598) D452_1597 hg1 hg3.1 hg3.2 ?_
  refine im_ld (q := 1599) (i := 3) D452_1598 rfl rfl rfl ?_
  refine im_callS (q := 1602) (kd := 0) (y := 220) (n := 4) (z := 0) (vs := [.ref 0, vI (scr g (p4 + 1)), vI (scr g (p4 + 2)), .ref 7081]) (r := []) (L2 := [some (.ref 0), some (vI (scr g (p4 + 1))), some (vI (scr g (p4 + 2))), some (.ref 7081), none]) D452_1599 rfl (im_cal cn_452 cl_13_212) (Or.inl rfl) rfl rfl rfl rfl rfl hd ⟨rfl, rfl, rfl, rfl, trivial⟩ ?_
  refine hP.mono ?_
  rintro _ e5 M4 ⟨x7, rfl, ex6, rfl, hP⟩
  refine im_bkS ?_
  refine im_st1 (q := 1604) (i := 5) (L' := [some (.float 200), some (.ref 0), some (.ref 6952), some (.ref 7081), some (vI p4), some (vI x7), none, none]) D452_1602 (Or.inr rfl) (Nat.le_of_ble_eq_true rfl) rfl ?_
  refine im_ld (q := 1605) (i := 2) D452_1604 rfl rfl rfl ?_
  refine im_ld (q := 1606) (i := 0) D452_1605 rfl rfl rfl ?_
  refine im_ld (q := 1608) (i := 4) D452_1606 rfl rfl rfl ?_
  refine im_iconst (q := 1609) D452_1608 ?_
  refine im_iadd (q := 1610) D452_1609 ?_
  refine im_scld (q := 1611) D452_1610 hg1 hg2.1 hg2.2 ?_
  refine im_ld (q := 1612) (i := 0) D452_1611 rfl rfl rfl ?_
  refine im_ld (q := 1614) (i := 4) D452_1612 rfl rfl rfl ?_
  refine im_iconst (q := 1615) D452_1614 ?_
  refine im_iadd (q := 1616) D452_1615 ?_
  refine im_scld (q := 1617) D452_1616 hg1 hg3.1 hg3.2 ?_
  refine im_callV (q := 1620) (kd := 1) (y := 418) (n := 2) (ci := 12) (a := 6952) (vs := [.ref 6952, vI (scr g (p4 + 1)), vI (scr g (p4 + 2))]) (r := []) (L2 := [some (.ref 6952), some (vI (scr g (p4 + 1))), some (vI (scr g (p4 + 2)))]) D452_1617 (im_cal cn_452 cl_13_214) (Or.inl rfl) rfl sf_6952 rfl rfl rfl rfl hd ⟨rfl, rfl, rfl, trivial⟩ ?_
  refine hP.mono ?_
  rintro _ e9 M8 ⟨x11, rfl, rfl, hP⟩
  refine im_bkS ?_
  refine im_st2 (q := 1622) (i := 6) (L' := [some (.float 200), some (.ref 0), some (.ref 6952), some (.ref 7081), some (vI p4), some (vI x7), some (vL x11), none]) D452_1620 (Or.inr rfl) (Nat.le_of_ble_eq_true rfl) rfl ?_
  refine im_ld (q := 1623) (i := 2) D452_1622 rfl rfl rfl ?_
  refine im_callV (q := 1626) (kd := 1) (y := 262) (n := 0) (ci := 12) (a := 6952) (vs := [.ref 6952]) (r := []) (L2 := [some (.ref 6952)]) D452_1623 (im_cal cn_452 cl_13_140) (Or.inl rfl) rfl sf_6952 rfl rfl rfl rfl hd ⟨rfl, trivial⟩ ?_
  refine hP.mono ?_
  rintro _ e13 M12 ⟨x15, rfl, rfl, hP⟩
  refine im_bkS ?_
  refine im_ld (q := 1628) (i := 5) D452_1626 rfl rfl rfl ?_
  obtain ⟨hg16, hP⟩ := hP
  obtain ⟨hg17, hP⟩ := hP
  obtain ⟨hP, hJ23⟩ := hP
  have kJ24 : (((x15 = x7) ∧ (¬ x7 = 0)) ∨ ((x15 = x7) ∧ (x7 = 0) ∧ ((M12 7081 0) = x11))) → im_T g d 452 1649 [some (.float 200), some (.ref 0), some (.ref 6952), some (.ref 7081), some (vI p4), none, none, none] [] (e ++ ex6) M12 K := by
    intro  hx25
    have hP := hJ23  hx25
    refine im_goto (q := 1652) (t := 2616) D452_1649 rfl ?_
    refine im_iinc (q := 2619) (i := 4) (L' := [some (.float 200), some (.ref 0), some (.ref 6952), some (.ref 7081), some (vI (p4 + 6)), none, none, none]) D452_2616 rfl (Nat.le_of_ble_eq_true rfl) rfl ?_
    refine im_goto (q := 2622) (t := 23) D452_2619 rfl ?_
    exact hP.wk ⟨rfl, rfl, rfl, rfl, rfl, trivial⟩
  refine im_icmp (q := 1631) (t := 1633) D452_1628 rfl hg16 hg17 (fun hc18 => ?_) (fun hc18 => ?_)
  · replace hP := hP.1 hc18
    refine im_ld (q := 1635) (i := 5) D452_1633 rfl rfl rfl ?_
    refine im_ifc (q := 1638) (t := 1649) D452_1635 rfl hg17 (fun hc19 => ?_) (fun hc19 => ?_)
    · exact (kJ24  (Or.inl ⟨hc18, hc19⟩)).wk ⟨rfl, rfl, rfl, rfl, rfl, trivial⟩
    · replace hP := hP (Decidable.not_not.mp hc19)
      refine im_ld (q := 1639) (i := 3) D452_1638 rfl rfl rfl ?_
      refine im_iconst (q := 1640) D452_1639 ?_
      refine im_rng (j := 0) sf_7081 (by decide) (by decide) (fun hr20 => ?_)
      refine im_lald (q := 1641) D452_1640 sf_7081 (by decide) (by decide) (by decide) rfl ?_
      refine im_ld (q := 1643) (i := 6) D452_1641 rfl rfl rfl ?_
      obtain ⟨hg21, hP⟩ := hP
      refine im_lif (q := 1644) (q2 := 1647) (t := 1649) D452_1643 D452_1644 rfl hr20 hg21 (fun hc22 => ?_) (fun hc22 => ?_)
      · exact (kJ24  (Or.inr ⟨hc18, (Decidable.not_not.mp hc19), hc22⟩)).wk ⟨rfl, rfl, rfl, rfl, rfl, trivial⟩
      · replace hP := hP hc22
        refine im_iconst (q := 1648) D452_1647 ?_
        exact im_zret (q := 1649) D452_1648 rfl (by decide) hP
  · replace hP := hP.2 hc18
    refine im_iconst (q := 1632) D452_1631 ?_
    exact im_zret (q := 1633) D452_1632 rfl (by decide) hP
set_option maxRecDepth 20000 in
set_option maxHeartbeats 4000000 in
theorem w_law_1652 {g : im_g} {d : Nat} {e : im_E} {M : im_M} {K : im_K} {p4 : Int} (hd : 1 ≤ d) (hP : (g.2 ≤ 2147483647) ∧ (0 ≤ (p4 + 1) ∧ (p4 + 1) < g.2) ∧ (0 ≤ (p4 + 2) ∧ (p4 + 2) < g.2) ∧ ((∀ x5 : Int, ((((scr g (p4 + 2)) = 0) ∧ x5 = 0) ∨ ((¬ (scr g (p4 + 2)) = 0) ∧ x5 = 1)) → im_T g (d - 1) 223 0 [some (.ref 0), some (vI (scr g (p4 + 1))), some (vI x5), some (.ref 7081), none] [] e M (im_ri (fun x12 e10 M9 => ∃ ex11 : im_E, e10 = e ++ ex11 ∧ ((∀ x14 : Int, ((((scr g (p4 + 2)) = 0) ∧ x14 = 0) ∨ ((¬ (scr g (p4 + 2)) = 0) ∧ x14 = 1)) → im_T g (d - 1) 419 0 [some (.ref 6952), some (vI (scr g (p4 + 1))), some (vI x14)] [] (e ++ ex11) M9 (im_ri (fun x21 e_ M18 => (e ++ ex11) = e_ ∧ im_T g (d - 1) 262 0 [some (.ref 6952)] [] (e ++ ex11) M18 (im_ri (fun x25 e_ M22 => (e ++ ex11) = e_ ∧ (im_i32 x25) ∧ (im_i32 x12) ∧ ((((x25 = x12 → ((x12 = 0 → (im_i32 x21) ∧ ((¬ (M22 7081 0) = x21 → K (.inl (some (vI 0))) (e ++ ex11) M22))))) ∧ (¬ x25 = x12 → K (.inl (some (vI 0))) (e ++ ex11) M22))) ∧ ((((x25 = x12) ∧ (¬ x12 = 0)) ∨ ((x25 = x12) ∧ (x12 = 0) ∧ ((M22 7081 0) = x21))) → im_T g d 452 23 [some (.float 200), some (.ref 0), some (.ref 6952), some (.ref 7081), some (vI (p4 + 6)), none, none, none] [] (e ++ ex11) M22 K))))))))))))) : im_T g d 452 1652 [some (.float 200), some (.ref 0), some (.ref 6952), some (.ref 7081), some (vI p4), none, none, none] [] e M K := by
  refine im_ld (q := 1653) (i := 1) D452_1652 rfl rfl rfl ?_
  refine im_ld (q := 1654) (i := 0) D452_1653 rfl rfl rfl ?_
  refine im_ld (q := 1656) (i := 4) D452_1654 rfl rfl rfl ?_
  refine im_iconst (q := 1657) D452_1656 ?_
  refine im_iadd (q := 1658) D452_1657 ?_
  obtain ⟨hg1, hP⟩ := hP
  obtain ⟨hg2, hP⟩ := hP
  refine im_scld (q := 1659) D452_1658 hg1 hg2.1 hg2.2 ?_
  refine im_ld (q := 1660) (i := 0) D452_1659 rfl rfl rfl ?_
  refine im_ld (q := 1662) (i := 4) D452_1660 rfl rfl rfl ?_
  refine im_iconst (q := 1663) D452_1662 ?_
  refine im_iadd (q := 1664) D452_1663 ?_
  obtain ⟨hg3, hP⟩ := hP
  refine im_scld (q := 1665) D452_1664 hg1 hg3.1 hg3.2 ?_
  have hJ6 := hP
  have kJ7 : ∀ x5 : Int, ((((scr g (p4 + 2)) = 0) ∧ x5 = 0) ∨ ((¬ (scr g (p4 + 2)) = 0) ∧ x5 = 1)) → im_T g d 452 1673 [some (.float 200), some (.ref 0), some (.ref 6952), some (.ref 7081), some (vI p4), none, none, none] [vI x5, vI (scr g (p4 + 1)), .ref 0] e M K := by
    intro x5 hx8
    have hP := hJ6 x5 hx8
    refine im_ld (q := 1674) (i := 3) D452_1673 rfl rfl rfl ?_
    refine im_callS (q := 1677) (kd := 0) (y := 223) (n := 4) (z := 0) (vs := [.ref 0, vI (scr g (p4 + 1)), vI x5, .ref 7081]) (r := []) (L2 := [some (.ref 0), some (vI (scr g (p4 + 1))), some (vI x5), some (.ref 7081), none]) D452_1674 rfl (im_cal cn_452 cl_13_215) (Or.inl rfl) rfl rfl rfl rfl rfl hd ⟨rfl, rfl, rfl, rfl, trivial⟩ ?_
    refine hP.mono ?_
    rintro _ e10 M9 ⟨x12, rfl, ex11, rfl, hP⟩
    refine im_bkS ?_
    refine im_st1 (q := 1679) (i := 5) (L' := [some (.float 200), some (.ref 0), some (.ref 6952), some (.ref 7081), some (vI p4), some (vI x12), none, none]) D452_1677 (Or.inr rfl) (Nat.le_of_ble_eq_true rfl) rfl ?_
    refine im_ld (q := 1680) (i := 2) D452_1679 rfl rfl rfl ?_
    refine im_ld (q := 1681) (i := 0) D452_1680 rfl rfl rfl ?_
    refine im_ld (q := 1683) (i := 4) D452_1681 rfl rfl rfl ?_
    refine im_iconst (q := 1684) D452_1683 ?_
    refine im_iadd (q := 1685) D452_1684 ?_
    refine im_scld (q := 1686) D452_1685 hg1 hg2.1 hg2.2 ?_
    refine im_ld (q := 1687) (i := 0) D452_1686 rfl rfl rfl ?_
    refine im_ld (q := 1689) (i := 4) D452_1687 rfl rfl rfl ?_
    refine im_iconst (q := 1690) D452_1689 ?_
    refine im_iadd (q := 1691) D452_1690 ?_
    refine im_scld (q := 1692) D452_1691 hg1 hg3.1 hg3.2 ?_
    have hJ15 := hP
    have kJ16 : ∀ x14 : Int, ((((scr g (p4 + 2)) = 0) ∧ x14 = 0) ∨ ((¬ (scr g (p4 + 2)) = 0) ∧ x14 = 1)) → im_T g d 452 1700 [some (.float 200), some (.ref 0), some (.ref 6952), some (.ref 7081), some (vI p4), some (vI x12), none, none] [vI x14, vI (scr g (p4 + 1)), .ref 6952] (e ++ ex11) M9 K := by
      intro x14 hx17
      have hP := hJ15 x14 hx17
      refine im_callV (q := 1703) (kd := 1) (y := 419) (n := 2) (ci := 12) (a := 6952) (vs := [.ref 6952, vI (scr g (p4 + 1)), vI x14]) (r := []) (L2 := [some (.ref 6952), some (vI (scr g (p4 + 1))), some (vI x14)]) D452_1700 (im_cal cn_452 cl_13_218) (Or.inl rfl) rfl sf_6952 rfl rfl rfl rfl hd ⟨rfl, rfl, rfl, trivial⟩ ?_
      refine hP.mono ?_
      rintro _ e19 M18 ⟨x21, rfl, rfl, hP⟩
      refine im_bkS ?_
      refine im_st1 (q := 1705) (i := 6) (L' := [some (.float 200), some (.ref 0), some (.ref 6952), some (.ref 7081), some (vI p4), some (vI x12), some (vI x21), none]) D452_1703 (Or.inr rfl) (Nat.le_of_ble_eq_true rfl) rfl ?_
      refine im_ld (q := 1706) (i := 2) D452_1705 rfl rfl rfl ?_
      refine im_callV (q := 1709) (kd := 1) (y := 262) (n := 0) (ci := 12) (a := 6952) (vs := [.ref 6952]) (r := []) (L2 := [some (.ref 6952)]) D452_1706 (im_cal cn_452 cl_13_140) (Or.inl rfl) rfl sf_6952 rfl rfl rfl rfl hd ⟨rfl, trivial⟩ ?_
      refine hP.mono ?_
      rintro _ e23 M22 ⟨x25, rfl, rfl, hP⟩
      refine im_bkS ?_
      refine im_ld (q := 1711) (i := 5) D452_1709 rfl rfl rfl ?_
      obtain ⟨hg26, hP⟩ := hP
      obtain ⟨hg27, hP⟩ := hP
      obtain ⟨hP, hJ33⟩ := hP
      have kJ34 : (((x25 = x12) ∧ (¬ x12 = 0)) ∨ ((x25 = x12) ∧ (x12 = 0) ∧ ((M22 7081 0) = x21))) → im_T g d 452 1733 [some (.float 200), some (.ref 0), some (.ref 6952), some (.ref 7081), some (vI p4), none, none, none] [] (e ++ ex11) M22 K := by
        intro  hx35
        have hP := hJ33  hx35
        refine im_goto (q := 1736) (t := 2616) D452_1733 rfl ?_
        refine im_iinc (q := 2619) (i := 4) (L' := [some (.float 200), some (.ref 0), some (.ref 6952), some (.ref 7081), some (vI (p4 + 6)), none, none, none]) D452_2616 rfl (Nat.le_of_ble_eq_true rfl) rfl ?_
        refine im_goto (q := 2622) (t := 23) D452_2619 rfl ?_
        exact hP.wk ⟨rfl, rfl, rfl, rfl, rfl, trivial⟩
      refine im_icmp (q := 1714) (t := 1716) D452_1711 rfl hg26 hg27 (fun hc28 => ?_) (fun hc28 => ?_)
      · replace hP := hP.1 hc28
        refine im_ld (q := 1718) (i := 5) D452_1716 rfl rfl rfl ?_
        refine im_ifc (q := 1721) (t := 1733) D452_1718 rfl hg27 (fun hc29 => ?_) (fun hc29 => ?_)
        · exact (kJ34  (Or.inl ⟨hc28, hc29⟩)).wk ⟨rfl, rfl, rfl, rfl, rfl, trivial⟩
        · replace hP := hP (Decidable.not_not.mp hc29)
          refine im_ld (q := 1722) (i := 3) D452_1721 rfl rfl rfl ?_
          refine im_iconst (q := 1723) D452_1722 ?_
          refine im_rng (j := 0) sf_7081 (by decide) (by decide) (fun hr30 => ?_)
          refine im_lald (q := 1724) D452_1723 sf_7081 (by decide) (by decide) (by decide) rfl ?_
          refine im_ld (q := 1726) (i := 6) D452_1724 rfl rfl rfl ?_
          obtain ⟨hg31, hP⟩ := hP
          refine im_i2l (q := 1727) D452_1726 hg31 ?_
          refine im_lif (q := 1728) (q2 := 1731) (t := 1733) D452_1727 D452_1728 rfl hr30 (im_32_64 hg31) (fun hc32 => ?_) (fun hc32 => ?_)
          · exact (kJ34  (Or.inr ⟨hc28, (Decidable.not_not.mp hc29), hc32⟩)).wk ⟨rfl, rfl, rfl, rfl, rfl, trivial⟩
          · replace hP := hP hc32
            refine im_iconst (q := 1732) D452_1731 ?_
            exact im_zret (q := 1733) D452_1732 rfl (by decide) hP
      · replace hP := hP.2 hc28
        refine im_iconst (q := 1715) D452_1714 ?_
        exact im_zret (q := 1716) D452_1715 rfl (by decide) hP
    refine im_ifc (q := 1695) (t := 1699) D452_1692 rfl (scr_r _ _) (fun hc13 => ?_) (fun hc13 => ?_)
    · refine im_iconst (q := 1700) D452_1699 ?_
      exact (kJ16 (0) (Or.inl ⟨hc13, rfl⟩)).wk ⟨rfl, rfl, rfl, rfl, rfl, rfl, trivial⟩
    · refine im_iconst (q := 1696) D452_1695 ?_
      refine im_goto (q := 1699) (t := 1700) D452_1696 rfl ?_
      exact (kJ16 (1) (Or.inr ⟨hc13, rfl⟩)).wk ⟨rfl, rfl, rfl, rfl, rfl, rfl, trivial⟩
  refine im_ifc (q := 1668) (t := 1672) D452_1665 rfl (scr_r _ _) (fun hc4 => ?_) (fun hc4 => ?_)
  · refine im_iconst (q := 1673) D452_1672 ?_
    exact (kJ7 (0) (Or.inl ⟨hc4, rfl⟩)).wk ⟨rfl, rfl, rfl, rfl, rfl, trivial⟩
  · refine im_iconst (q := 1669) D452_1668 ?_
    refine im_goto (q := 1672) (t := 1673) D452_1669 rfl ?_
    exact (kJ7 (1) (Or.inr ⟨hc4, rfl⟩)).wk ⟨rfl, rfl, rfl, rfl, rfl, trivial⟩
set_option maxRecDepth 20000 in
set_option maxHeartbeats 4000000 in
theorem w_law_1736 {g : im_g} {d : Nat} {e : im_E} {M : im_M} {K : im_K} {p4 : Int} (hd : 1 ≤ d) (hP : (g.2 ≤ 2147483647) ∧ (0 ≤ (p4 + 1) ∧ (p4 + 1) < g.2) ∧ (0 ≤ (p4 + 2) ∧ (p4 + 2) < g.2) ∧ im_T g (d - 1) 225 0 [some (.ref 0), some (vI (scr g (p4 + 1))), some (vI (scr g (p4 + 2))), some (.ref 7081), none] [] e M (im_ri (fun x7 e5 M4 => ∃ ex6 : im_E, e5 = e ++ ex6 ∧ im_T g (d - 1) 420 0 [some (.ref 6952), some (vI (scr g (p4 + 1))), some (vI (scr g (p4 + 2)))] [] (e ++ ex6) M4 (im_rl (fun x11 e_ M8 => (e ++ ex6) = e_ ∧ im_T g (d - 1) 262 0 [some (.ref 6952)] [] (e ++ ex6) M8 (im_ri (fun x15 e_ M12 => (e ++ ex6) = e_ ∧ (im_i32 x15) ∧ (im_i32 x7) ∧ ((((x15 = x7 → ((x7 = 0 → (im_i64 x11) ∧ ((¬ (M12 7081 0) = x11 → K (.inl (some (vI 0))) (e ++ ex6) M12))))) ∧ (¬ x15 = x7 → K (.inl (some (vI 0))) (e ++ ex6) M12))) ∧ ((((x15 = x7) ∧ (¬ x7 = 0)) ∨ ((x15 = x7) ∧ (x7 = 0) ∧ ((M12 7081 0) = x11))) → im_T g d 452 23 [some (.float 200), some (.ref 0), some (.ref 6952), some (.ref 7081), some (vI (p4 + 6)), none, none, none] [] (e ++ ex6) M12 K))))))))) : im_T g d 452 1736 [some (.float 200), some (.ref 0), some (.ref 6952), some (.ref 7081), some (vI p4), none, none, none] [] e M K := by
  refine im_ld (q := 1737) (i := 1) D452_1736 rfl rfl rfl ?_
  refine im_ld (q := 1738) (i := 0) D452_1737 rfl rfl rfl ?_
  refine im_ld (q := 1740) (i := 4) D452_1738 rfl rfl rfl ?_
  refine im_iconst (q := 1741) D452_1740 ?_
  refine im_iadd (q := 1742) D452_1741 ?_
  obtain ⟨hg1, hP⟩ := hP
  obtain ⟨hg2, hP⟩ := hP
  refine im_scld (q := 1743) D452_1742 hg1 hg2.1 hg2.2 ?_
  refine im_ld (q := 1744) (i := 0) D452_1743 rfl rfl rfl ?_
  refine im_ld (q := 1746) (i := 4) D452_1744 rfl rfl rfl ?_
  refine im_iconst (q := 1747) D452_1746 ?_
  refine im_iadd (q := 1748) D452_1747 ?_
  obtain ⟨hg3, hP⟩ := hP
  refine im_scld (q := 1749) D452_1748 hg1 hg3.1 hg3.2 ?_
  refine im_ld (q := 1750) (i := 3) D452_1749 rfl rfl rfl ?_
  refine im_callS (q := 1753) (kd := 0) (y := 225) (n := 4) (z := 0) (vs := [.ref 0, vI (scr g (p4 + 1)), vI (scr g (p4 + 2)), .ref 7081]) (r := []) (L2 := [some (.ref 0), some (vI (scr g (p4 + 1))), some (vI (scr g (p4 + 2))), some (.ref 7081), none]) D452_1750 rfl (im_cal cn_452 cl_13_219) (Or.inl rfl) rfl rfl rfl rfl rfl hd ⟨rfl, rfl, rfl, rfl, trivial⟩ ?_
  refine hP.mono ?_
  rintro _ e5 M4 ⟨x7, rfl, ex6, rfl, hP⟩
  refine im_bkS ?_
  refine im_st1 (q := 1755) (i := 5) (L' := [some (.float 200), some (.ref 0), some (.ref 6952), some (.ref 7081), some (vI p4), some (vI x7), none, none]) D452_1753 (Or.inr rfl) (Nat.le_of_ble_eq_true rfl) rfl ?_
  refine im_ld (q := 1756) (i := 2) D452_1755 rfl rfl rfl ?_
  refine im_ld (q := 1757) (i := 0) D452_1756 rfl rfl rfl ?_
  refine im_ld (q := 1759) (i := 4) D452_1757 rfl rfl rfl ?_
  refine im_iconst (q := 1760) D452_1759 ?_
  refine im_iadd (q := 1761) D452_1760 ?_
  refine im_scld (q := 1762) D452_1761 hg1 hg2.1 hg2.2 ?_
  refine im_ld (q := 1763) (i := 0) D452_1762 rfl rfl rfl ?_
  refine im_ld (q := 1765) (i := 4) D452_1763 rfl rfl rfl ?_
  refine im_iconst (q := 1766) D452_1765 ?_
  refine im_iadd (q := 1767) D452_1766 ?_
  refine im_scld (q := 1768) D452_1767 hg1 hg3.1 hg3.2 ?_
  refine im_callV (q := 1771) (kd := 1) (y := 420) (n := 2) (ci := 12) (a := 6952) (vs := [.ref 6952, vI (scr g (p4 + 1)), vI (scr g (p4 + 2))]) (r := []) (L2 := [some (.ref 6952), some (vI (scr g (p4 + 1))), some (vI (scr g (p4 + 2)))]) D452_1768 (im_cal cn_452 cl_13_221) (Or.inl rfl) rfl sf_6952 rfl rfl rfl rfl hd ⟨rfl, rfl, rfl, trivial⟩ ?_
  refine hP.mono ?_
  rintro _ e9 M8 ⟨x11, rfl, rfl, hP⟩
  refine im_bkS ?_
  refine im_st2 (q := 1773) (i := 6) (L' := [some (.float 200), some (.ref 0), some (.ref 6952), some (.ref 7081), some (vI p4), some (vI x7), some (vL x11), none]) D452_1771 (Or.inr rfl) (Nat.le_of_ble_eq_true rfl) rfl ?_
  refine im_ld (q := 1774) (i := 2) D452_1773 rfl rfl rfl ?_
  refine im_callV (q := 1777) (kd := 1) (y := 262) (n := 0) (ci := 12) (a := 6952) (vs := [.ref 6952]) (r := []) (L2 := [some (.ref 6952)]) D452_1774 (im_cal cn_452 cl_13_140) (Or.inl rfl) rfl sf_6952 rfl rfl rfl rfl hd ⟨rfl, trivial⟩ ?_
  refine hP.mono ?_
  rintro _ e13 M12 ⟨x15, rfl, rfl, hP⟩
  refine im_bkS ?_
  refine im_ld (q := 1779) (i := 5) D452_1777 rfl rfl rfl ?_
  obtain ⟨hg16, hP⟩ := hP
  obtain ⟨hg17, hP⟩ := hP
  obtain ⟨hP, hJ23⟩ := hP
  have kJ24 : (((x15 = x7) ∧ (¬ x7 = 0)) ∨ ((x15 = x7) ∧ (x7 = 0) ∧ ((M12 7081 0) = x11))) → im_T g d 452 1800 [some (.float 200), some (.ref 0), some (.ref 6952), some (.ref 7081), some (vI p4), none, none, none] [] (e ++ ex6) M12 K := by
    intro  hx25
    have hP := hJ23  hx25
    refine im_goto (q := 1803) (t := 2616) D452_1800 rfl ?_
    refine im_iinc (q := 2619) (i := 4) (L' := [some (.float 200), some (.ref 0), some (.ref 6952), some (.ref 7081), some (vI (p4 + 6)), none, none, none]) D452_2616 rfl (Nat.le_of_ble_eq_true rfl) rfl ?_
    refine im_goto (q := 2622) (t := 23) D452_2619 rfl ?_
    exact hP.wk ⟨rfl, rfl, rfl, rfl, rfl, trivial⟩
  refine im_icmp (q := 1782) (t := 1784) D452_1779 rfl hg16 hg17 (fun hc18 => ?_) (fun hc18 => ?_)
  · replace hP := hP.1 hc18
    refine im_ld (q := 1786) (i := 5) D452_1784 rfl rfl rfl ?_
    refine im_ifc (q := 1789) (t := 1800) D452_1786 rfl hg17 (fun hc19 => ?_) (fun hc19 => ?_)
    · exact (kJ24  (Or.inl ⟨hc18, hc19⟩)).wk ⟨rfl, rfl, rfl, rfl, rfl, trivial⟩
    · replace hP := hP (Decidable.not_not.mp hc19)
      refine im_ld (q := 1790) (i := 3) D452_1789 rfl rfl rfl ?_
      refine im_iconst (q := 1791) D452_1790 ?_
      refine im_rng (j := 0) sf_7081 (by decide) (by decide) (fun hr20 => ?_)
      refine im_lald (q := 1792) D452_1791 sf_7081 (by decide) (by decide) (by decide) rfl ?_
      refine im_ld (q := 1794) (i := 6) D452_1792 rfl rfl rfl ?_
      obtain ⟨hg21, hP⟩ := hP
      refine im_lif (q := 1795) (q2 := 1798) (t := 1800) D452_1794 D452_1795 rfl hr20 hg21 (fun hc22 => ?_) (fun hc22 => ?_)
      · exact (kJ24  (Or.inr ⟨hc18, (Decidable.not_not.mp hc19), hc22⟩)).wk ⟨rfl, rfl, rfl, rfl, rfl, trivial⟩
      · replace hP := hP hc22
        refine im_iconst (q := 1799) D452_1798 ?_
        exact im_zret (q := 1800) D452_1799 rfl (by decide) hP
  · replace hP := hP.2 hc18
    refine im_iconst (q := 1783) D452_1782 ?_
    exact im_zret (q := 1784) D452_1783 rfl (by decide) hP
set_option maxRecDepth 20000 in
set_option maxHeartbeats 4000000 in
theorem w_law_1803 {g : im_g} {d : Nat} {e : im_E} {M : im_M} {K : im_K} {p4 : Int} (hd : 1 ≤ d) (hP : (g.2 ≤ 2147483647) ∧ (0 ≤ (p4 + 1) ∧ (p4 + 1) < g.2) ∧ (0 ≤ (p4 + 2) ∧ (p4 + 2) < g.2) ∧ (0 ≤ (p4 + 3) ∧ (p4 + 3) < g.2) ∧ (0 ≤ (p4 + 4) ∧ (p4 + 4) < g.2) ∧ im_T g (d - 1) 227 0 [some (.ref 0), some (vL (xlor (xlshl (scr g (p4 + 1)) 32) (xland (scr g (p4 + 2)) 4294967295))), none, some (vL (xlor (xlshl (scr g (p4 + 3)) 32) (xland (scr g (p4 + 4)) 4294967295))), none, some (.ref 7081), none] [] e M (im_ri (fun x9 e7 M6 => ∃ ex8 : im_E, e7 = e ++ ex8 ∧ im_T g (d - 1) 421 0 [some (.ref 6952), some (vL (xlor (xlshl (scr g (p4 + 1)) 32) (xland (scr g (p4 + 2)) 4294967295))), none, some (vL (xlor (xlshl (scr g (p4 + 3)) 32) (xland (scr g (p4 + 4)) 4294967295))), none, none] [] (e ++ ex8) M6 (im_ri (fun x13 e_ M10 => (e ++ ex8) = e_ ∧ im_T g (d - 1) 262 0 [some (.ref 6952)] [] (e ++ ex8) M10 (im_ri (fun x17 e_ M14 => (e ++ ex8) = e_ ∧ (im_i32 x17) ∧ (im_i32 x9) ∧ ((((x17 = x9 → ((x9 = 0 → (im_i32 x13) ∧ ((¬ (M14 7081 0) = x13 → K (.inl (some (vI 0))) (e ++ ex8) M14))))) ∧ (¬ x17 = x9 → K (.inl (some (vI 0))) (e ++ ex8) M14))) ∧ ((((x17 = x9) ∧ (¬ x9 = 0)) ∨ ((x17 = x9) ∧ (x9 = 0) ∧ ((M14 7081 0) = x13))) → im_T g d 452 23 [some (.float 200), some (.ref 0), some (.ref 6952), some (.ref 7081), some (vI (p4 + 6)), none, none, none] [] (e ++ ex8) M14 K))))))))) : im_T g d 452 1803 [some (.float 200), some (.ref 0), some (.ref 6952), some (.ref 7081), some (vI p4), none, none, none] [] e M K := by
  refine im_ld (q := 1804) (i := 1) D452_1803 rfl rfl rfl ?_
  refine im_ld (q := 1805) (i := 0) D452_1804 rfl rfl rfl ?_
  refine im_ld (q := 1807) (i := 4) D452_1805 rfl rfl rfl ?_
  refine im_iconst (q := 1808) D452_1807 ?_
  refine im_iadd (q := 1809) D452_1808 ?_
  obtain ⟨hg1, hP⟩ := hP
  obtain ⟨hg2, hP⟩ := hP
  refine im_scld (q := 1810) D452_1809 hg1 hg2.1 hg2.2 ?_
  refine im_i2l (q := 1811) D452_1810 (scr_r _ _) ?_
  refine im_bipush (q := 1813) D452_1811 rfl ?_
  refine im_lshl (q := 1814) D452_1813 ?_
  refine im_ld (q := 1815) (i := 0) D452_1814 rfl rfl rfl ?_
  refine im_ld (q := 1817) (i := 4) D452_1815 rfl rfl rfl ?_
  refine im_iconst (q := 1818) D452_1817 ?_
  refine im_iadd (q := 1819) D452_1818 ?_
  obtain ⟨hg3, hP⟩ := hP
  refine im_scld (q := 1820) D452_1819 hg1 hg3.1 hg3.2 ?_
  refine im_i2l (q := 1821) D452_1820 (scr_r _ _) ?_
  refine im_ldc2 (q := 1824) (n := 4294967295) D452_1821 rfl ?_
  refine im_land (q := 1825) D452_1824 ?_
  refine im_lor (q := 1826) D452_1825 ?_
  refine im_ld (q := 1827) (i := 0) D452_1826 rfl rfl rfl ?_
  refine im_ld (q := 1829) (i := 4) D452_1827 rfl rfl rfl ?_
  refine im_iconst (q := 1830) D452_1829 ?_
  refine im_iadd (q := 1831) D452_1830 ?_
  obtain ⟨hg4, hP⟩ := hP
  refine im_scld (q := 1832) D452_1831 hg1 hg4.1 hg4.2 ?_
  refine im_i2l (q := 1833) D452_1832 (scr_r _ _) ?_
  refine im_bipush (q := 1835) D452_1833 rfl ?_
  refine im_lshl (q := 1836) D452_1835 ?_
  refine im_ld (q := 1837) (i := 0) D452_1836 rfl rfl rfl ?_
  refine im_ld (q := 1839) (i := 4) D452_1837 rfl rfl rfl ?_
  refine im_iconst (q := 1840) D452_1839 ?_
  refine im_iadd (q := 1841) D452_1840 ?_
  obtain ⟨hg5, hP⟩ := hP
  refine im_scld (q := 1842) D452_1841 hg1 hg5.1 hg5.2 ?_
  refine im_i2l (q := 1843) D452_1842 (scr_r _ _) ?_
  refine im_ldc2 (q := 1846) (n := 4294967295) D452_1843 rfl ?_
  refine im_land (q := 1847) D452_1846 ?_
  refine im_lor (q := 1848) D452_1847 ?_
  refine im_ld (q := 1849) (i := 3) D452_1848 rfl rfl rfl ?_
  refine im_callS (q := 1852) (kd := 0) (y := 227) (n := 4) (z := 0) (vs := [.ref 0, vL (xlor (xlshl (scr g (p4 + 1)) 32) (xland (scr g (p4 + 2)) 4294967295)), vL (xlor (xlshl (scr g (p4 + 3)) 32) (xland (scr g (p4 + 4)) 4294967295)), .ref 7081]) (r := []) (L2 := [some (.ref 0), some (vL (xlor (xlshl (scr g (p4 + 1)) 32) (xland (scr g (p4 + 2)) 4294967295))), none, some (vL (xlor (xlshl (scr g (p4 + 3)) 32) (xland (scr g (p4 + 4)) 4294967295))), none, some (.ref 7081), none]) D452_1849 rfl (im_cal cn_452 cl_13_222) (Or.inl rfl) rfl rfl rfl rfl rfl hd ⟨rfl, rfl, rfl, rfl, trivial⟩ ?_
  refine hP.mono ?_
  rintro _ e7 M6 ⟨x9, rfl, ex8, rfl, hP⟩
  refine im_bkS ?_
  refine im_st1 (q := 1854) (i := 5) (L' := [some (.float 200), some (.ref 0), some (.ref 6952), some (.ref 7081), some (vI p4), some (vI x9), none, none]) D452_1852 (Or.inr rfl) (Nat.le_of_ble_eq_true rfl) rfl ?_
  refine im_ld (q := 1855) (i := 2) D452_1854 rfl rfl rfl ?_
  refine im_ld (q := 1856) (i := 0) D452_1855 rfl rfl rfl ?_
  refine im_ld (q := 1858) (i := 4) D452_1856 rfl rfl rfl ?_
  refine im_iconst (q := 1859) D452_1858 ?_
  refine im_iadd (q := 1860) D452_1859 ?_
  refine im_scld (q := 1861) D452_1860 hg1 hg2.1 hg2.2 ?_
  refine im_i2l (q := 1862) D452_1861 (scr_r _ _) ?_
  refine im_bipush (q := 1864) D452_1862 rfl ?_
  refine im_lshl (q := 1865) D452_1864 ?_
  refine im_ld (q := 1866) (i := 0) D452_1865 rfl rfl rfl ?_
  refine im_ld (q := 1868) (i := 4) D452_1866 rfl rfl rfl ?_
  refine im_iconst (q := 1869) D452_1868 ?_
  refine im_iadd (q := 1870) D452_1869 ?_
  refine im_scld (q := 1871) D452_1870 hg1 hg3.1 hg3.2 ?_
  refine im_i2l (q := 1872) D452_1871 (scr_r _ _) ?_
  refine im_ldc2 (q := 1875) (n := 4294967295) D452_1872 rfl ?_
  refine im_land (q := 1876) D452_1875 ?_
  refine im_lor (q := 1877) D452_1876 ?_
  refine im_ld (q := 1878) (i := 0) D452_1877 rfl rfl rfl ?_
  refine im_ld (q := 1880) (i := 4) D452_1878 rfl rfl rfl ?_
  refine im_iconst (q := 1881) D452_1880 ?_
  refine im_iadd (q := 1882) D452_1881 ?_
  refine im_scld (q := 1883) D452_1882 hg1 hg4.1 hg4.2 ?_
  refine im_i2l (q := 1884) D452_1883 (scr_r _ _) ?_
  refine im_bipush (q := 1886) D452_1884 rfl ?_
  refine im_lshl (q := 1887) D452_1886 ?_
  refine im_ld (q := 1888) (i := 0) D452_1887 rfl rfl rfl ?_
  refine im_ld (q := 1890) (i := 4) D452_1888 rfl rfl rfl ?_
  refine im_iconst (q := 1891) D452_1890 ?_
  refine im_iadd (q := 1892) D452_1891 ?_
  refine im_scld (q := 1893) D452_1892 hg1 hg5.1 hg5.2 ?_
  refine im_i2l (q := 1894) D452_1893 (scr_r _ _) ?_
  refine im_ldc2 (q := 1897) (n := 4294967295) D452_1894 rfl ?_
  refine im_land (q := 1898) D452_1897 ?_
  refine im_lor (q := 1899) D452_1898 ?_
  refine im_callV (q := 1902) (kd := 1) (y := 421) (n := 2) (ci := 12) (a := 6952) (vs := [.ref 6952, vL (xlor (xlshl (scr g (p4 + 1)) 32) (xland (scr g (p4 + 2)) 4294967295)), vL (xlor (xlshl (scr g (p4 + 3)) 32) (xland (scr g (p4 + 4)) 4294967295))]) (r := []) (L2 := [some (.ref 6952), some (vL (xlor (xlshl (scr g (p4 + 1)) 32) (xland (scr g (p4 + 2)) 4294967295))), none, some (vL (xlor (xlshl (scr g (p4 + 3)) 32) (xland (scr g (p4 + 4)) 4294967295))), none, none]) D452_1899 (im_cal cn_452 cl_13_225) (Or.inl rfl) rfl sf_6952 rfl rfl rfl rfl hd ⟨rfl, rfl, rfl, trivial⟩ ?_
  refine hP.mono ?_
  rintro _ e11 M10 ⟨x13, rfl, rfl, hP⟩
  refine im_bkS ?_
  refine im_st1 (q := 1904) (i := 6) (L' := [some (.float 200), some (.ref 0), some (.ref 6952), some (.ref 7081), some (vI p4), some (vI x9), some (vI x13), none]) D452_1902 (Or.inr rfl) (Nat.le_of_ble_eq_true rfl) rfl ?_
  refine im_ld (q := 1905) (i := 2) D452_1904 rfl rfl rfl ?_
  refine im_callV (q := 1908) (kd := 1) (y := 262) (n := 0) (ci := 12) (a := 6952) (vs := [.ref 6952]) (r := []) (L2 := [some (.ref 6952)]) D452_1905 (im_cal cn_452 cl_13_140) (Or.inl rfl) rfl sf_6952 rfl rfl rfl rfl hd ⟨rfl, trivial⟩ ?_
  refine hP.mono ?_
  rintro _ e15 M14 ⟨x17, rfl, rfl, hP⟩
  refine im_bkS ?_
  refine im_ld (q := 1910) (i := 5) D452_1908 rfl rfl rfl ?_
  obtain ⟨hg18, hP⟩ := hP
  obtain ⟨hg19, hP⟩ := hP
  obtain ⟨hP, hJ25⟩ := hP
  have kJ26 : (((x17 = x9) ∧ (¬ x9 = 0)) ∨ ((x17 = x9) ∧ (x9 = 0) ∧ ((M14 7081 0) = x13))) → im_T g d 452 1932 [some (.float 200), some (.ref 0), some (.ref 6952), some (.ref 7081), some (vI p4), none, none, none] [] (e ++ ex8) M14 K := by
    intro  hx27
    have hP := hJ25  hx27
    refine im_goto (q := 1935) (t := 2616) D452_1932 rfl ?_
    refine im_iinc (q := 2619) (i := 4) (L' := [some (.float 200), some (.ref 0), some (.ref 6952), some (.ref 7081), some (vI (p4 + 6)), none, none, none]) D452_2616 rfl (Nat.le_of_ble_eq_true rfl) rfl ?_
    refine im_goto (q := 2622) (t := 23) D452_2619 rfl ?_
    exact hP.wk ⟨rfl, rfl, rfl, rfl, rfl, trivial⟩
  refine im_icmp (q := 1913) (t := 1915) D452_1910 rfl hg18 hg19 (fun hc20 => ?_) (fun hc20 => ?_)
  · replace hP := hP.1 hc20
    refine im_ld (q := 1917) (i := 5) D452_1915 rfl rfl rfl ?_
    refine im_ifc (q := 1920) (t := 1932) D452_1917 rfl hg19 (fun hc21 => ?_) (fun hc21 => ?_)
    · exact (kJ26  (Or.inl ⟨hc20, hc21⟩)).wk ⟨rfl, rfl, rfl, rfl, rfl, trivial⟩
    · replace hP := hP (Decidable.not_not.mp hc21)
      refine im_ld (q := 1921) (i := 3) D452_1920 rfl rfl rfl ?_
      refine im_iconst (q := 1922) D452_1921 ?_
      refine im_rng (j := 0) sf_7081 (by decide) (by decide) (fun hr22 => ?_)
      refine im_lald (q := 1923) D452_1922 sf_7081 (by decide) (by decide) (by decide) rfl ?_
      refine im_ld (q := 1925) (i := 6) D452_1923 rfl rfl rfl ?_
      obtain ⟨hg23, hP⟩ := hP
      refine im_i2l (q := 1926) D452_1925 hg23 ?_
      refine im_lif (q := 1927) (q2 := 1930) (t := 1932) D452_1926 D452_1927 rfl hr22 (im_32_64 hg23) (fun hc24 => ?_) (fun hc24 => ?_)
      · exact (kJ26  (Or.inr ⟨hc20, (Decidable.not_not.mp hc21), hc24⟩)).wk ⟨rfl, rfl, rfl, rfl, rfl, trivial⟩
      · replace hP := hP hc24
        refine im_iconst (q := 1931) D452_1930 ?_
        exact im_zret (q := 1932) D452_1931 rfl (by decide) hP
  · replace hP := hP.2 hc20
    refine im_iconst (q := 1914) D452_1913 ?_
    exact im_zret (q := 1915) D452_1914 rfl (by decide) hP
